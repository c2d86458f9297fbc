set_option maxHeartbeats 4000000 in
set_option maxRecDepth 100000 in
theorem kX4_has (l : Launch) (D : va_G) (cy : Nat → ClassId) (sz : Nat) (x0 : Int32) (ni : Nat)  : Met l yX4_has wsX4_has ({ frames := 0, cells := 0, slots := 0, locals := 0 }) (vg_P D cy [.int x0, .int (nI ni)] sz (([] : va_W))) (vg_Qi (S := Unit) D sz (([] : va_W)) (fun r _ => r = (bI (kHas x0 ni))) (fun _ => ([] : va_W))) 0 0 (va_A (([] : va_W)) sz) := by
  refine Met.ofW (cc := cX4_has) (maxL := 2) (ret := (some .boolean)) (by decide) rfl ?_
  intro p e s m args below meth c s₁ BB hml hv
  obtain ⟨rfl, hsz, hP, hE, hD0⟩ := hv
  have hx := BB.exec
  have hb := BB.bytes
  have hr := BB.returns
  have hts := atoms_spec (ws := wsX4_has) BB.pre
  have hown : s.vm.findClass RX4 = some m.cls := findClass_of_methodNamed BB.named
  have hlocks := BB.notSynchronized
  subst hsz
  have hD := hD0.self (sz := s.heap.size)
  have hA : ∀ q : Nat, s.heap.size ≤ q → (va_A (([] : va_W)) s.heap.size) q := fun q h => Or.inr h
  have hS : va_S (va_A (([] : va_W)) s.heap.size) s.heap s.heap [] := va_S.rf
  have hl := lv_entry ([.int x0, .int (nI ni)]) (n := 2) (Nat.le_of_ble_eq_true rfl)
  rw [lg_entry_eq]
  generalize (lg_sl ([.int x0, .int (nI ni)]) ++ List.replicate (2 - (lg_sl ([.int x0, .int (nI ni)])).length) Slot.unset).toArray = ls at hl ⊢
  have hl : lv_has ls 2 [(0, .int x0), (1, .int (nI ni))] := hl
  refine lv_iload_n hx hb dX4_has_0 rfl (lv_at hl 0 rfl) ?_
  refine lv_iload_n hx hb dX4_has_1 rfl (lv_at hl 1 rfl) ?_
  refine lv_ishr hx hb dX4_has_2 ?_
  refine lv_iconst (v := 1) hx hb dX4_has_3 (by decide) ?_
  refine lv_iand hx hb dX4_has_4 ?_
  refine lv_if_eq (tgt := 12) hx hb dX4_has_5 (by decide) (fun r1 => ?_) (fun r1 => ?_)
  · have c1 := r1
    refine lv_iconst (v := 0) hx hb dX4_has_12 (by decide) ?_
    refine vg_tp (bI (kHas x0 ni)) (by simp [kHas, bI, c1]) ?_
    exact W.zret (v := (bI (kHas x0 ni))) (ty := .boolean) hx hb hr (bI_and _) (fun t ht hW => ⟨⟨(bI (kHas x0 ni)), (), rfl, rfl, (by rw [ht]; exact hP), hD⟩, hS.F ht⟩) hS.2.2 dX4_has_13
  · have c1 := r1
    refine lv_iconst (v := 1) hx hb dX4_has_8 (by decide) ?_
    refine lv_goto (tgt := 13) hx hb dX4_has_9 (by decide) ?_
    refine vg_tp (bI (kHas x0 ni)) (by simp [kHas, bI, c1]) ?_
    exact W.zret (v := (bI (kHas x0 ni))) (ty := .boolean) hx hb hr (bI_and _) (fun t ht hW => ⟨⟨(bI (kHas x0 ni)), (), rfl, rfl, (by rw [ht]; exact hP), hD⟩, hS.F ht⟩) hS.2.2 dX4_has_13

set_option maxHeartbeats 4000000 in
set_option maxRecDepth 100000 in
theorem kX4_bit (l : Launch) (D : va_G) (cy : Nat → ClassId) (sz : Nat) (ni : Nat)  : Met l yX4_bit wsX4_bit ({ frames := 0, cells := 0, slots := 0, locals := 0 }) (vg_P D cy [.int (nI ni)] sz (([] : va_W))) (vg_Qi (S := Unit) D sz (([] : va_W)) (fun r _ => r = (kBit ni)) (fun _ => ([] : va_W))) 0 0 (va_A (([] : va_W)) sz) := by
  refine Met.ofW (cc := cX4_bit) (maxL := 1) (ret := (some .int)) (by decide) rfl ?_
  intro p e s m args below meth c s₁ BB hml hv
  obtain ⟨rfl, hsz, hP, hE, hD0⟩ := hv
  have hx := BB.exec
  have hb := BB.bytes
  have hr := BB.returns
  have hts := atoms_spec (ws := wsX4_bit) BB.pre
  have hown : s.vm.findClass RX4 = some m.cls := findClass_of_methodNamed BB.named
  have hlocks := BB.notSynchronized
  subst hsz
  have hD := hD0.self (sz := s.heap.size)
  have hA : ∀ q : Nat, s.heap.size ≤ q → (va_A (([] : va_W)) s.heap.size) q := fun q h => Or.inr h
  have hS : va_S (va_A (([] : va_W)) s.heap.size) s.heap s.heap [] := va_S.rf
  have hl := lv_entry ([.int (nI ni)]) (n := 1) (Nat.le_of_ble_eq_true rfl)
  rw [lg_entry_eq]
  generalize (lg_sl ([.int (nI ni)]) ++ List.replicate (1 - (lg_sl ([.int (nI ni)])).length) Slot.unset).toArray = ls at hl ⊢
  have hl : lv_has ls 1 [(0, .int (nI ni))] := hl
  refine lv_iconst (v := 1) hx hb dX4_bit_0 (by decide) ?_
  refine lv_iload_n hx hb dX4_bit_1 rfl (lv_at hl 0 rfl) ?_
  refine lv_ishl hx hb dX4_bit_2 ?_
  refine vg_tp (kBit ni) (by first | rfl | simp []) ?_
  exact W.iret (v := (kBit ni)) hx hb hr (fun t ht hW => ⟨⟨(kBit ni), (), rfl, rfl, (by rw [ht]; exact hP), hD⟩, hS.F ht⟩) hS.2.2 dX4_bit_3

set_option maxHeartbeats 4000000 in
set_option maxRecDepth 100000 in
theorem kX4_hasPost (l : Launch) (D : va_G) (cy : Nat → ClassId) (sz : Nat) (x0 : Int64) (ni : Nat)  : Met l yX4_hasPost wsX4_hasPost ({ frames := 0, cells := 0, slots := 0, locals := 0 }) (vg_P D cy [.long x0, .int (nI ni)] sz (([] : va_W))) (vg_Qi (S := Unit) D sz (([] : va_W)) (fun r _ => r = (bI (kHsL x0 ni))) (fun _ => ([] : va_W))) 0 0 (va_A (([] : va_W)) sz) := by
  refine Met.ofW (cc := cX4_hasPost) (maxL := 3) (ret := (some .boolean)) (by decide) rfl ?_
  intro p e s m args below meth c s₁ BB hml hv
  obtain ⟨rfl, hsz, hP, hE, hD0⟩ := hv
  have hx := BB.exec
  have hb := BB.bytes
  have hr := BB.returns
  have hts := atoms_spec (ws := wsX4_hasPost) BB.pre
  have hown : s.vm.findClass RX4 = some m.cls := findClass_of_methodNamed BB.named
  have hlocks := BB.notSynchronized
  subst hsz
  have hD := hD0.self (sz := s.heap.size)
  have hA : ∀ q : Nat, s.heap.size ≤ q → (va_A (([] : va_W)) s.heap.size) q := fun q h => Or.inr h
  have hS : va_S (va_A (([] : va_W)) s.heap.size) s.heap s.heap [] := va_S.rf
  have hl := lv_entry ([.long x0, .int (nI ni)]) (n := 3) (Nat.le_of_ble_eq_true rfl)
  rw [lg_entry_eq]
  generalize (lg_sl ([.long x0, .int (nI ni)]) ++ List.replicate (3 - (lg_sl ([.long x0, .int (nI ni)])).length) Slot.unset).toArray = ls at hl ⊢
  have hl : lv_has ls 3 [(0, .long x0), (2, .int (nI ni))] := hl
  refine lv_lload_n hx hb dX4_hasPost_0 rfl (lv_at hl 0 rfl) ?_
  refine lv_iload_n hx hb dX4_hasPost_1 rfl (lv_at hl 1 rfl) ?_
  refine lv_lshr (v := x0 >>> ((nI ni).toInt64 &&& 63)) hx hb dX4_hasPost_2 rfl ?_
  refine lv_lconst (v := 1) hx hb dX4_hasPost_3 (by decide) ?_
  refine lv_land hx hb dX4_hasPost_4 ?_
  refine lv_lconst (v := 0) hx hb dX4_hasPost_5 (by decide) ?_
  refine W.lcmp hx hb dX4_hasPost_6 ?_
  refine lv_if_eq (tgt := 14) hx hb dX4_hasPost_7 (by decide) (fun r1 => ?_) (fun r1 => ?_)
  · have c1 : ((x0 >>> ((nI ni).toInt64 &&& 63)) &&& (1 : Int64)) = 0 := (lg_cmp_eq _ _).mp r1
    refine lv_iconst (v := 0) hx hb dX4_hasPost_14 (by decide) ?_
    refine vg_tp (bI (kHsL x0 ni)) (by simp [kHsL, bI, c1]) ?_
    exact W.zret (v := (bI (kHsL x0 ni))) (ty := .boolean) hx hb hr (bI_and _) (fun t ht hW => ⟨⟨(bI (kHsL x0 ni)), (), rfl, rfl, (by rw [ht]; exact hP), hD⟩, hS.F ht⟩) hS.2.2 dX4_hasPost_15
  · have c1 : ¬ ((x0 >>> ((nI ni).toInt64 &&& 63)) &&& (1 : Int64)) = 0 := fun q => r1 ((lg_cmp_eq _ _).mpr q)
    refine lv_iconst (v := 1) hx hb dX4_hasPost_10 (by decide) ?_
    refine lv_goto (tgt := 15) hx hb dX4_hasPost_11 (by decide) ?_
    refine vg_tp (bI (kHsL x0 ni)) (by simp [kHsL, bI, c1]) ?_
    exact W.zret (v := (bI (kHsL x0 ni))) (ty := .boolean) hx hb hr (bI_and _) (fun t ht hW => ⟨⟨(bI (kHsL x0 ni)), (), rfl, rfl, (by rw [ht]; exact hP), hD⟩, hS.F ht⟩) hS.2.2 dX4_hasPost_15

set_option maxHeartbeats 4000000 in
set_option maxRecDepth 100000 in
theorem kJ6_bitCount_0f7a4 (l : Launch) (D : va_G) (cy : Nat → ClassId) (sz : Nat) (x0 : Int32)  : Met l yJ6_bitCount_0f7a4 wsJ6_bitCount_0f7a4 ({ frames := 0, cells := 0, slots := 0, locals := 0 }) (vg_P D cy [.int x0] sz (([] : va_W))) (vg_Qi (S := Unit) D sz (([] : va_W)) (fun r _ => r = (jIbc x0)) (fun _ => ([] : va_W))) 0 0 (va_A (([] : va_W)) sz) := by
  refine Met.ofW (cc := cJ6_bitCount_0f7a4) (maxL := 1) (ret := (some .int)) (by decide) rfl ?_
  intro p e s m args below meth c s₁ BB hml hv
  obtain ⟨rfl, hsz, hP, hE, hD0⟩ := hv
  have hx := BB.exec
  have hb := BB.bytes
  have hr := BB.returns
  have hts := atoms_spec (ws := wsJ6_bitCount_0f7a4) BB.pre
  have hown : s.vm.findClass RJ6 = some m.cls := findClass_of_methodNamed BB.named
  have hlocks := BB.notSynchronized
  subst hsz
  have hD := hD0.self (sz := s.heap.size)
  have hA : ∀ q : Nat, s.heap.size ≤ q → (va_A (([] : va_W)) s.heap.size) q := fun q h => Or.inr h
  have hS : va_S (va_A (([] : va_W)) s.heap.size) s.heap s.heap [] := va_S.rf
  have hl := lv_entry ([.int x0]) (n := 1) (Nat.le_of_ble_eq_true rfl)
  rw [lg_entry_eq]
  generalize (lg_sl ([.int x0]) ++ List.replicate (1 - (lg_sl ([.int x0])).length) Slot.unset).toArray = ls at hl ⊢
  have hl : lv_has ls 1 [(0, .int x0)] := hl
  refine lv_iload_n hx hb dJ6_bitCount_0f7a4_0 rfl (lv_at hl 0 rfl) ?_
  refine lv_iload_n hx hb dJ6_bitCount_0f7a4_1 rfl (lv_at hl 0 rfl) ?_
  refine lv_iconst (v := 1) hx hb dJ6_bitCount_0f7a4_2 (by decide) ?_
  refine lv_iushr (v := (x0.toUInt32 >>> ((1 : Int32).toUInt32 &&& Int32.toUInt32 31)).toInt32) hx hb dJ6_bitCount_0f7a4_3 rfl ?_
  refine lv_ldcw (own := RJ6) (index := 265) (v := 1431655765) hx hb hown (hts (.constant RJ6 265 1431655765) (by decide +kernel)) dJ6_bitCount_0f7a4_4 ?_
  refine lv_iand hx hb dJ6_bitCount_0f7a4_7 ?_
  refine lv_isub hx hb dJ6_bitCount_0f7a4_8 ?_
  refine lv_topi (fun y1 ey1 => ?_)
  refine lv_istore_n (lv' := [(0, .int y1)]) hx hb dJ6_bitCount_0f7a4_9 rfl hl (by decide) rfl (fun ls hl => ?_)
  have hl : lv_has ls 1 [(0, .int y1)] := lv_sub hl [0] rfl
  refine lv_iload_n hx hb dJ6_bitCount_0f7a4_10 rfl (lv_at hl 0 rfl) ?_
  refine lv_ldcw (own := RJ6) (index := 266) (v := 858993459) hx hb hown (hts (.constant RJ6 266 858993459) (by decide +kernel)) dJ6_bitCount_0f7a4_11 ?_
  refine lv_iand hx hb dJ6_bitCount_0f7a4_14 ?_
  refine lv_iload_n hx hb dJ6_bitCount_0f7a4_15 rfl (lv_at hl 0 rfl) ?_
  refine lv_iconst (v := 2) hx hb dJ6_bitCount_0f7a4_16 (by decide) ?_
  refine lv_iushr (v := (y1.toUInt32 >>> ((2 : Int32).toUInt32 &&& Int32.toUInt32 31)).toInt32) hx hb dJ6_bitCount_0f7a4_17 rfl ?_
  refine lv_ldcw (own := RJ6) (index := 266) (v := 858993459) hx hb hown (hts (.constant RJ6 266 858993459) (by decide +kernel)) dJ6_bitCount_0f7a4_18 ?_
  refine lv_iand hx hb dJ6_bitCount_0f7a4_21 ?_
  refine lv_iadd hx hb dJ6_bitCount_0f7a4_22 ?_
  refine lv_topi (fun y2 ey2 => ?_)
  refine lv_istore_n (lv' := [(0, .int y2)]) hx hb dJ6_bitCount_0f7a4_23 rfl hl (by decide) rfl (fun ls hl => ?_)
  have hl : lv_has ls 1 [(0, .int y2)] := lv_sub hl [0] rfl
  refine lv_iload_n hx hb dJ6_bitCount_0f7a4_24 rfl (lv_at hl 0 rfl) ?_
  refine lv_iload_n hx hb dJ6_bitCount_0f7a4_25 rfl (lv_at hl 0 rfl) ?_
  refine lv_iconst (v := 4) hx hb dJ6_bitCount_0f7a4_26 (by decide) ?_
  refine lv_iushr (v := (y2.toUInt32 >>> ((4 : Int32).toUInt32 &&& Int32.toUInt32 31)).toInt32) hx hb dJ6_bitCount_0f7a4_27 rfl ?_
  refine lv_iadd hx hb dJ6_bitCount_0f7a4_28 ?_
  refine lv_ldcw (own := RJ6) (index := 267) (v := 252645135) hx hb hown (hts (.constant RJ6 267 252645135) (by decide +kernel)) dJ6_bitCount_0f7a4_29 ?_
  refine lv_iand hx hb dJ6_bitCount_0f7a4_32 ?_
  refine lv_topi (fun y3 ey3 => ?_)
  refine lv_istore_n (lv' := [(0, .int y3)]) hx hb dJ6_bitCount_0f7a4_33 rfl hl (by decide) rfl (fun ls hl => ?_)
  have hl : lv_has ls 1 [(0, .int y3)] := lv_sub hl [0] rfl
  refine lv_iload_n hx hb dJ6_bitCount_0f7a4_34 rfl (lv_at hl 0 rfl) ?_
  refine lv_iload_n hx hb dJ6_bitCount_0f7a4_35 rfl (lv_at hl 0 rfl) ?_
  refine lv_bipush (v := 8) hx hb dJ6_bitCount_0f7a4_36 (by decide) ?_
  refine lv_iushr (v := (y3.toUInt32 >>> ((8 : Int32).toUInt32 &&& Int32.toUInt32 31)).toInt32) hx hb dJ6_bitCount_0f7a4_38 rfl ?_
  refine lv_iadd hx hb dJ6_bitCount_0f7a4_39 ?_
  refine lv_topi (fun y4 ey4 => ?_)
  refine lv_istore_n (lv' := [(0, .int y4)]) hx hb dJ6_bitCount_0f7a4_40 rfl hl (by decide) rfl (fun ls hl => ?_)
  have hl : lv_has ls 1 [(0, .int y4)] := lv_sub hl [0] rfl
  refine lv_iload_n hx hb dJ6_bitCount_0f7a4_41 rfl (lv_at hl 0 rfl) ?_
  refine lv_iload_n hx hb dJ6_bitCount_0f7a4_42 rfl (lv_at hl 0 rfl) ?_
  refine lv_bipush (v := 16) hx hb dJ6_bitCount_0f7a4_43 (by decide) ?_
  refine lv_iushr (v := (y4.toUInt32 >>> ((16 : Int32).toUInt32 &&& Int32.toUInt32 31)).toInt32) hx hb dJ6_bitCount_0f7a4_45 rfl ?_
  refine lv_iadd hx hb dJ6_bitCount_0f7a4_46 ?_
  refine lv_topi (fun y5 ey5 => ?_)
  refine lv_istore_n (lv' := [(0, .int y5)]) hx hb dJ6_bitCount_0f7a4_47 rfl hl (by decide) rfl (fun ls hl => ?_)
  have hl : lv_has ls 1 [(0, .int y5)] := lv_sub hl [0] rfl
  refine lv_iload_n hx hb dJ6_bitCount_0f7a4_48 rfl (lv_at hl 0 rfl) ?_
  refine lv_bipush (v := 63) hx hb dJ6_bitCount_0f7a4_49 (by decide) ?_
  refine lv_iand hx hb dJ6_bitCount_0f7a4_51 ?_
  refine vg_tp (jIbc x0) (by rw [ey5, ey4, ey3, ey2, ey1]; rfl) ?_
  exact W.iret (v := (jIbc x0)) hx hb hr (fun t ht hW => ⟨⟨(jIbc x0), (), rfl, rfl, (by rw [ht]; exact hP), hD⟩, hS.F ht⟩) hS.2.2 dJ6_bitCount_0f7a4_52

set_option maxHeartbeats 4000000 in
set_option maxRecDepth 100000 in
theorem kJ13_bitCount_95d88 (l : Launch) (D : va_G) (cy : Nat → ClassId) (sz : Nat) (x0 : Int64)  : Met l yJ13_bitCount_95d88 wsJ13_bitCount_95d88 ({ frames := 0, cells := 0, slots := 0, locals := 0 }) (vg_P D cy [.long x0] sz (([] : va_W))) (vg_Qi (S := Unit) D sz (([] : va_W)) (fun r _ => r = (jLbc x0)) (fun _ => ([] : va_W))) 0 0 (va_A (([] : va_W)) sz) := by
  refine Met.ofW (cc := cJ13_bitCount_95d88) (maxL := 2) (ret := (some .int)) (by decide) rfl ?_
  intro p e s m args below meth c s₁ BB hml hv
  obtain ⟨rfl, hsz, hP, hE, hD0⟩ := hv
  have hx := BB.exec
  have hb := BB.bytes
  have hr := BB.returns
  have hts := atoms_spec (ws := wsJ13_bitCount_95d88) BB.pre
  have hown : s.vm.findClass RJ13 = some m.cls := findClass_of_methodNamed BB.named
  have hlocks := BB.notSynchronized
  subst hsz
  have hD := hD0.self (sz := s.heap.size)
  have hA : ∀ q : Nat, s.heap.size ≤ q → (va_A (([] : va_W)) s.heap.size) q := fun q h => Or.inr h
  have hS : va_S (va_A (([] : va_W)) s.heap.size) s.heap s.heap [] := va_S.rf
  have hl := lv_entry ([.long x0]) (n := 2) (Nat.le_of_ble_eq_true rfl)
  rw [lg_entry_eq]
  generalize (lg_sl ([.long x0]) ++ List.replicate (2 - (lg_sl ([.long x0])).length) Slot.unset).toArray = ls at hl ⊢
  have hl : lv_has ls 2 [(0, .long x0)] := hl
  refine lv_lload_n hx hb dJ13_bitCount_95d88_0 rfl (lv_at hl 0 rfl) ?_
  refine lv_lload_n hx hb dJ13_bitCount_95d88_1 rfl (lv_at hl 0 rfl) ?_
  refine lv_iconst (v := 1) hx hb dJ13_bitCount_95d88_2 (by decide) ?_
  refine lv_lushr (v := (x0.toUInt64 >>> ((1 : Int32).toInt64.toUInt64 &&& Int64.toUInt64 63)).toInt64) hx hb dJ13_bitCount_95d88_3 rfl ?_
  refine lv_ldc2 (own := RJ13) (index := 314) (v := 6148914691236517205) hx hb hown (hts (.constantLong RJ13 314 6148914691236517205) (by decide +kernel)) dJ13_bitCount_95d88_4 ?_
  refine lv_land hx hb dJ13_bitCount_95d88_7 ?_
  refine lv_lsub hx hb dJ13_bitCount_95d88_8 ?_
  refine lv_topl (fun y1 ey1 => ?_)
  refine lv_lstore_n (lv' := [(0, .long y1)]) hx hb dJ13_bitCount_95d88_9 rfl hl (by decide) rfl (fun ls hl => ?_)
  have hl : lv_has ls 2 [(0, .long y1)] := lv_sub hl [0] rfl
  refine lv_lload_n hx hb dJ13_bitCount_95d88_10 rfl (lv_at hl 0 rfl) ?_
  refine lv_ldc2 (own := RJ13) (index := 316) (v := 3689348814741910323) hx hb hown (hts (.constantLong RJ13 316 3689348814741910323) (by decide +kernel)) dJ13_bitCount_95d88_11 ?_
  refine lv_land hx hb dJ13_bitCount_95d88_14 ?_
  refine lv_lload_n hx hb dJ13_bitCount_95d88_15 rfl (lv_at hl 0 rfl) ?_
  refine lv_iconst (v := 2) hx hb dJ13_bitCount_95d88_16 (by decide) ?_
  refine lv_lushr (v := (y1.toUInt64 >>> ((2 : Int32).toInt64.toUInt64 &&& Int64.toUInt64 63)).toInt64) hx hb dJ13_bitCount_95d88_17 rfl ?_
  refine lv_ldc2 (own := RJ13) (index := 316) (v := 3689348814741910323) hx hb hown (hts (.constantLong RJ13 316 3689348814741910323) (by decide +kernel)) dJ13_bitCount_95d88_18 ?_
  refine lv_land hx hb dJ13_bitCount_95d88_21 ?_
  refine lv_ladd hx hb dJ13_bitCount_95d88_22 ?_
  refine lv_topl (fun y2 ey2 => ?_)
  refine lv_lstore_n (lv' := [(0, .long y2)]) hx hb dJ13_bitCount_95d88_23 rfl hl (by decide) rfl (fun ls hl => ?_)
  have hl : lv_has ls 2 [(0, .long y2)] := lv_sub hl [0] rfl
  refine lv_lload_n hx hb dJ13_bitCount_95d88_24 rfl (lv_at hl 0 rfl) ?_
  refine lv_lload_n hx hb dJ13_bitCount_95d88_25 rfl (lv_at hl 0 rfl) ?_
  refine lv_iconst (v := 4) hx hb dJ13_bitCount_95d88_26 (by decide) ?_
  refine lv_lushr (v := (y2.toUInt64 >>> ((4 : Int32).toInt64.toUInt64 &&& Int64.toUInt64 63)).toInt64) hx hb dJ13_bitCount_95d88_27 rfl ?_
  refine lv_ladd hx hb dJ13_bitCount_95d88_28 ?_
  refine lv_ldc2 (own := RJ13) (index := 318) (v := 1085102592571150095) hx hb hown (hts (.constantLong RJ13 318 1085102592571150095) (by decide +kernel)) dJ13_bitCount_95d88_29 ?_
  refine lv_land hx hb dJ13_bitCount_95d88_32 ?_
  refine lv_topl (fun y3 ey3 => ?_)
  refine lv_lstore_n (lv' := [(0, .long y3)]) hx hb dJ13_bitCount_95d88_33 rfl hl (by decide) rfl (fun ls hl => ?_)
  have hl : lv_has ls 2 [(0, .long y3)] := lv_sub hl [0] rfl
  refine lv_lload_n hx hb dJ13_bitCount_95d88_34 rfl (lv_at hl 0 rfl) ?_
  refine lv_lload_n hx hb dJ13_bitCount_95d88_35 rfl (lv_at hl 0 rfl) ?_
  refine lv_bipush (v := 8) hx hb dJ13_bitCount_95d88_36 (by decide) ?_
  refine lv_lushr (v := (y3.toUInt64 >>> ((8 : Int32).toInt64.toUInt64 &&& Int64.toUInt64 63)).toInt64) hx hb dJ13_bitCount_95d88_38 rfl ?_
  refine lv_ladd hx hb dJ13_bitCount_95d88_39 ?_
  refine lv_topl (fun y4 ey4 => ?_)
  refine lv_lstore_n (lv' := [(0, .long y4)]) hx hb dJ13_bitCount_95d88_40 rfl hl (by decide) rfl (fun ls hl => ?_)
  have hl : lv_has ls 2 [(0, .long y4)] := lv_sub hl [0] rfl
  refine lv_lload_n hx hb dJ13_bitCount_95d88_41 rfl (lv_at hl 0 rfl) ?_
  refine lv_lload_n hx hb dJ13_bitCount_95d88_42 rfl (lv_at hl 0 rfl) ?_
  refine lv_bipush (v := 16) hx hb dJ13_bitCount_95d88_43 (by decide) ?_
  refine lv_lushr (v := (y4.toUInt64 >>> ((16 : Int32).toInt64.toUInt64 &&& Int64.toUInt64 63)).toInt64) hx hb dJ13_bitCount_95d88_45 rfl ?_
  refine lv_ladd hx hb dJ13_bitCount_95d88_46 ?_
  refine lv_topl (fun y5 ey5 => ?_)
  refine lv_lstore_n (lv' := [(0, .long y5)]) hx hb dJ13_bitCount_95d88_47 rfl hl (by decide) rfl (fun ls hl => ?_)
  have hl : lv_has ls 2 [(0, .long y5)] := lv_sub hl [0] rfl
  refine lv_lload_n hx hb dJ13_bitCount_95d88_48 rfl (lv_at hl 0 rfl) ?_
  refine lv_lload_n hx hb dJ13_bitCount_95d88_49 rfl (lv_at hl 0 rfl) ?_
  refine lv_bipush (v := 32) hx hb dJ13_bitCount_95d88_50 (by decide) ?_
  refine lv_lushr (v := (y5.toUInt64 >>> ((32 : Int32).toInt64.toUInt64 &&& Int64.toUInt64 63)).toInt64) hx hb dJ13_bitCount_95d88_52 rfl ?_
  refine lv_ladd hx hb dJ13_bitCount_95d88_53 ?_
  refine lv_topl (fun y6 ey6 => ?_)
  refine lv_lstore_n (lv' := [(0, .long y6)]) hx hb dJ13_bitCount_95d88_54 rfl hl (by decide) rfl (fun ls hl => ?_)
  have hl : lv_has ls 2 [(0, .long y6)] := lv_sub hl [0] rfl
  refine lv_lload_n hx hb dJ13_bitCount_95d88_55 rfl (lv_at hl 0 rfl) ?_
  refine lv_l2i (v := y6.toInt32) hx hb dJ13_bitCount_95d88_56 rfl ?_
  refine lv_bipush (v := 127) hx hb dJ13_bitCount_95d88_57 (by decide) ?_
  refine lv_iand hx hb dJ13_bitCount_95d88_59 ?_
  refine vg_tp (jLbc x0) (by rw [ey6, ey5, ey4, ey3, ey2, ey1]; rfl) ?_
  exact W.iret (v := (jLbc x0)) hx hb hr (fun t ht hW => ⟨⟨(jLbc x0), (), rfl, rfl, (by rw [ht]; exact hP), hD⟩, hS.F ht⟩) hS.2.2 dJ13_bitCount_95d88_60

set_option maxHeartbeats 4000000 in
set_option maxRecDepth 100000 in
theorem kX1_isAsking (l : Launch) (D : va_G) (cy : Nat → ClassId) (sz : Nat) (ko : Nat) (ka : Nat → Nat) (κ : Nat → Nat → Int32) (ζ : Nat → Nat → Int64) (pi : Nat) (qi : Nat) (hp : pi < 10) : Met l yX1_isAsking wsX1_isAsking ({ frames := 1, cells := 0, slots := 0, locals := 21 }) (vg_P D cy [.ref ko, .int (nI pi), .int (nI qi)] sz (Kw cy ko ka κ ζ)) (vg_Qi (S := Unit) D sz (Kw cy ko ka κ ζ) (fun r _ => r = (bI (kHas (κ 0 pi) qi))) (fun _ => Kw cy ko ka κ ζ)) 0 0 (va_A (Kw cy ko ka κ ζ) sz) := by
  refine Met.ofW (cc := cX1_isAsking) (maxL := 3) (ret := (some .boolean)) (by decide) rfl ?_
  intro p e s m args below meth c s₁ BB hml hv
  obtain ⟨rfl, hsz, hP, hE, hD0⟩ := hv
  have hx := BB.exec
  have hb := BB.bytes
  have hr := BB.returns
  have hts := atoms_spec (ws := wsX1_isAsking) BB.pre
  have hown : s.vm.findClass RX1 = some m.cls := findClass_of_methodNamed BB.named
  have hlocks := BB.notSynchronized
  subst hsz
  have hD := hD0.self (sz := s.heap.size)
  have hA : ∀ q : Nat, s.heap.size ≤ q → (va_A (Kw cy ko ka κ ζ) s.heap.size) q := fun q h => Or.inr h
  have hS : va_S (va_A (Kw cy ko ka κ ζ) s.heap.size) s.heap s.heap [] := va_S.rf
  have hin_RX1 : ∀ w ∈ u_ws RX1 TX1 7, w ∈ wsX1_isAsking := by decide +kernel
  have hl := lv_entry ([.ref ko, .int (nI pi), .int (nI qi)]) (n := 3) (Nat.le_of_ble_eq_true rfl)
  rw [lg_entry_eq]
  generalize (lg_sl ([.ref ko, .int (nI pi), .int (nI qi)]) ++ List.replicate (3 - (lg_sl ([.ref ko, .int (nI pi), .int (nI qi)])).length) Slot.unset).toArray = ls at hl ⊢
  have hl : lv_has ls 3 [(0, .ref ko), (1, .int (nI pi)), (2, .int (nI qi))] := hl
  refine lv_aload_n hx hb dX1_isAsking_0 rfl (lv_at hl 0 rfl) ?_
  refine va_get (D := D) (ci := 2) (v := .ref (ka 0)) (C := RX1) (T := TX1) (N := 7) hx hb hts hin_RX1 hown hE.1 hP 0 rfl rfl 0 (by decide) (hts (.fieldLink RX1 9 "Villagepost$Knowledge" "asks" "[I") (by decide +kernel)) (fun _ h9 => h9) rfl dX1_isAsking_1 ?_
  refine lv_iload_n hx hb dX1_isAsking_4 rfl (lv_at hl 1 rfl) ?_
  refine vg_iald hx hb hE.1 hP 1 0 rfl rfl (f := κ 0) (j := pi) (by omega) (by decide) dX1_isAsking_5 ?_
  refine lv_iload_n hx hb dX1_isAsking_6 rfl (lv_at hl 2 rfl) ?_
  refine vg_calliP (va_runSN (As := [.int ((κ 0) pi), .int (nI qi)]) (rest := []) ⟨hx, hb, hml, hown, hts⟩ (kX4_has l D cy s.heap.size (((κ 0) pi)) qi) ⟨va_cnB 2 hts gX1_isAsking_X4_has_n81 rfl rfl rfl (hE.2 (.methodLinkNest RX1 81 yX4_has "Villagepost") (by decide +kernel)) (hts (.initialized RX4) (by decide +kernel)) (by decide +kernel) ⟨Nat.le_of_ble_eq_true rfl, Nat.le_of_ble_eq_true rfl⟩, hts (.static yX4_has) (by decide +kernel), trivial⟩ (vg_P.preS hE vg_P0 (A := fun _ => True) vg_D0) rfl rfl hl.1 rfl (lv_room (Nat.le_of_ble_eq_true rfl)) dX1_isAsking_7 ⟨Nat.le_of_ble_eq_true rfl, Nat.le_of_ble_eq_true rfl⟩) hP hD hS hA (fun r _ H locs hr hP hD hS => ?_)
  subst hr
  refine vg_tp (bI (kHas (κ 0 pi) qi)) (by first | rfl | simp []) ?_
  exact W.zret (v := (bI (kHas (κ 0 pi) qi))) (ty := .boolean) hx hb hr (bI_and _) (fun t ht hW => ⟨⟨(bI (kHas (κ 0 pi) qi)), (), rfl, rfl, (by rw [ht]; exact hP), hD⟩, hS.F ht⟩) hS.2.2 dX1_isAsking_10

set_option maxHeartbeats 4000000 in
set_option maxRecDepth 100000 in
theorem kX1_isFollowing (l : Launch) (D : va_G) (cy : Nat → ClassId) (sz : Nat) (ko : Nat) (ka : Nat → Nat) (κ : Nat → Nat → Int32) (ζ : Nat → Nat → Int64) (pi : Nat) (qi : Nat) (hp : pi < 10) : Met l yX1_isFollowing wsX1_isFollowing ({ frames := 1, cells := 0, slots := 0, locals := 21 }) (vg_P D cy [.ref ko, .int (nI pi), .int (nI qi)] sz (Kw cy ko ka κ ζ)) (vg_Qi (S := Unit) D sz (Kw cy ko ka κ ζ) (fun r _ => r = (bI (kHas (κ 1 pi) qi))) (fun _ => Kw cy ko ka κ ζ)) 0 0 (va_A (Kw cy ko ka κ ζ) sz) := by
  refine Met.ofW (cc := cX1_isFollowing) (maxL := 3) (ret := (some .boolean)) (by decide) rfl ?_
  intro p e s m args below meth c s₁ BB hml hv
  obtain ⟨rfl, hsz, hP, hE, hD0⟩ := hv
  have hx := BB.exec
  have hb := BB.bytes
  have hr := BB.returns
  have hts := atoms_spec (ws := wsX1_isFollowing) BB.pre
  have hown : s.vm.findClass RX1 = some m.cls := findClass_of_methodNamed BB.named
  have hlocks := BB.notSynchronized
  subst hsz
  have hD := hD0.self (sz := s.heap.size)
  have hA : ∀ q : Nat, s.heap.size ≤ q → (va_A (Kw cy ko ka κ ζ) s.heap.size) q := fun q h => Or.inr h
  have hS : va_S (va_A (Kw cy ko ka κ ζ) s.heap.size) s.heap s.heap [] := va_S.rf
  have hin_RX1 : ∀ w ∈ u_ws RX1 TX1 7, w ∈ wsX1_isFollowing := by decide +kernel
  have hl := lv_entry ([.ref ko, .int (nI pi), .int (nI qi)]) (n := 3) (Nat.le_of_ble_eq_true rfl)
  rw [lg_entry_eq]
  generalize (lg_sl ([.ref ko, .int (nI pi), .int (nI qi)]) ++ List.replicate (3 - (lg_sl ([.ref ko, .int (nI pi), .int (nI qi)])).length) Slot.unset).toArray = ls at hl ⊢
  have hl : lv_has ls 3 [(0, .ref ko), (1, .int (nI pi)), (2, .int (nI qi))] := hl
  refine lv_aload_n hx hb dX1_isFollowing_0 rfl (lv_at hl 0 rfl) ?_
  refine va_get (D := D) (ci := 2) (v := .ref (ka 1)) (C := RX1) (T := TX1) (N := 7) hx hb hts hin_RX1 hown hE.1 hP 0 rfl rfl 1 (by decide) (hts (.fieldLink RX1 15 "Villagepost$Knowledge" "follows" "[I") (by decide +kernel)) (fun _ h9 => h9) rfl dX1_isFollowing_1 ?_
  refine lv_iload_n hx hb dX1_isFollowing_4 rfl (lv_at hl 1 rfl) ?_
  refine vg_iald hx hb hE.1 hP 2 0 rfl rfl (f := κ 1) (j := pi) (by omega) (by decide) dX1_isFollowing_5 ?_
  refine lv_iload_n hx hb dX1_isFollowing_6 rfl (lv_at hl 2 rfl) ?_
  refine vg_calliP (va_runSN (As := [.int ((κ 1) pi), .int (nI qi)]) (rest := []) ⟨hx, hb, hml, hown, hts⟩ (kX4_has l D cy s.heap.size (((κ 1) pi)) qi) ⟨va_cnB 2 hts gX1_isFollowing_X4_has_n81 rfl rfl rfl (hE.2 (.methodLinkNest RX1 81 yX4_has "Villagepost") (by decide +kernel)) (hts (.initialized RX4) (by decide +kernel)) (by decide +kernel) ⟨Nat.le_of_ble_eq_true rfl, Nat.le_of_ble_eq_true rfl⟩, hts (.static yX4_has) (by decide +kernel), trivial⟩ (vg_P.preS hE vg_P0 (A := fun _ => True) vg_D0) rfl rfl hl.1 rfl (lv_room (Nat.le_of_ble_eq_true rfl)) dX1_isFollowing_7 ⟨Nat.le_of_ble_eq_true rfl, Nat.le_of_ble_eq_true rfl⟩) hP hD hS hA (fun r _ H locs hr hP hD hS => ?_)
  subst hr
  refine vg_tp (bI (kHas (κ 1 pi) qi)) (by first | rfl | simp []) ?_
  exact W.zret (v := (bI (kHas (κ 1 pi) qi))) (ty := .boolean) hx hb hr (bI_and _) (fun t ht hW => ⟨⟨(bI (kHas (κ 1 pi) qi)), (), rfl, rfl, (by rw [ht]; exact hP), hD⟩, hS.F ht⟩) hS.2.2 dX1_isFollowing_10

set_option maxHeartbeats 4000000 in
set_option maxRecDepth 100000 in
theorem kX1_isBlocking (l : Launch) (D : va_G) (cy : Nat → ClassId) (sz : Nat) (ko : Nat) (ka : Nat → Nat) (κ : Nat → Nat → Int32) (ζ : Nat → Nat → Int64) (pi : Nat) (qi : Nat) (hp : pi < 10) : Met l yX1_isBlocking wsX1_isBlocking ({ frames := 1, cells := 0, slots := 0, locals := 21 }) (vg_P D cy [.ref ko, .int (nI pi), .int (nI qi)] sz (Kw cy ko ka κ ζ)) (vg_Qi (S := Unit) D sz (Kw cy ko ka κ ζ) (fun r _ => r = (bI (kHas (κ 2 pi) qi))) (fun _ => Kw cy ko ka κ ζ)) 0 0 (va_A (Kw cy ko ka κ ζ) sz) := by
  refine Met.ofW (cc := cX1_isBlocking) (maxL := 3) (ret := (some .boolean)) (by decide) rfl ?_
  intro p e s m args below meth c s₁ BB hml hv
  obtain ⟨rfl, hsz, hP, hE, hD0⟩ := hv
  have hx := BB.exec
  have hb := BB.bytes
  have hr := BB.returns
  have hts := atoms_spec (ws := wsX1_isBlocking) BB.pre
  have hown : s.vm.findClass RX1 = some m.cls := findClass_of_methodNamed BB.named
  have hlocks := BB.notSynchronized
  subst hsz
  have hD := hD0.self (sz := s.heap.size)
  have hA : ∀ q : Nat, s.heap.size ≤ q → (va_A (Kw cy ko ka κ ζ) s.heap.size) q := fun q h => Or.inr h
  have hS : va_S (va_A (Kw cy ko ka κ ζ) s.heap.size) s.heap s.heap [] := va_S.rf
  have hin_RX1 : ∀ w ∈ u_ws RX1 TX1 7, w ∈ wsX1_isBlocking := by decide +kernel
  have hl := lv_entry ([.ref ko, .int (nI pi), .int (nI qi)]) (n := 3) (Nat.le_of_ble_eq_true rfl)
  rw [lg_entry_eq]
  generalize (lg_sl ([.ref ko, .int (nI pi), .int (nI qi)]) ++ List.replicate (3 - (lg_sl ([.ref ko, .int (nI pi), .int (nI qi)])).length) Slot.unset).toArray = ls at hl ⊢
  have hl : lv_has ls 3 [(0, .ref ko), (1, .int (nI pi)), (2, .int (nI qi))] := hl
  refine lv_aload_n hx hb dX1_isBlocking_0 rfl (lv_at hl 0 rfl) ?_
  refine va_get (D := D) (ci := 2) (v := .ref (ka 2)) (C := RX1) (T := TX1) (N := 7) hx hb hts hin_RX1 hown hE.1 hP 0 rfl rfl 2 (by decide) (hts (.fieldLink RX1 18 "Villagepost$Knowledge" "blocks" "[I") (by decide +kernel)) (fun _ h9 => h9) rfl dX1_isBlocking_1 ?_
  refine lv_iload_n hx hb dX1_isBlocking_4 rfl (lv_at hl 1 rfl) ?_
  refine vg_iald hx hb hE.1 hP 3 0 rfl rfl (f := κ 2) (j := pi) (by omega) (by decide) dX1_isBlocking_5 ?_
  refine lv_iload_n hx hb dX1_isBlocking_6 rfl (lv_at hl 2 rfl) ?_
  refine vg_calliP (va_runSN (As := [.int ((κ 2) pi), .int (nI qi)]) (rest := []) ⟨hx, hb, hml, hown, hts⟩ (kX4_has l D cy s.heap.size (((κ 2) pi)) qi) ⟨va_cnB 2 hts gX1_isBlocking_X4_has_n81 rfl rfl rfl (hE.2 (.methodLinkNest RX1 81 yX4_has "Villagepost") (by decide +kernel)) (hts (.initialized RX4) (by decide +kernel)) (by decide +kernel) ⟨Nat.le_of_ble_eq_true rfl, Nat.le_of_ble_eq_true rfl⟩, hts (.static yX4_has) (by decide +kernel), trivial⟩ (vg_P.preS hE vg_P0 (A := fun _ => True) vg_D0) rfl rfl hl.1 rfl (lv_room (Nat.le_of_ble_eq_true rfl)) dX1_isBlocking_7 ⟨Nat.le_of_ble_eq_true rfl, Nat.le_of_ble_eq_true rfl⟩) hP hD hS hA (fun r _ H locs hr hP hD hS => ?_)
  subst hr
  refine vg_tp (bI (kHas (κ 2 pi) qi)) (by first | rfl | simp []) ?_
  exact W.zret (v := (bI (kHas (κ 2 pi) qi))) (ty := .boolean) hx hb hr (bI_and _) (fun t ht hW => ⟨⟨(bI (kHas (κ 2 pi) qi)), (), rfl, rfl, (by rw [ht]; exact hP), hD⟩, hS.F ht⟩) hS.2.2 dX1_isBlocking_10

set_option maxHeartbeats 4000000 in
set_option maxRecDepth 100000 in
theorem kX1_isAlias (l : Launch) (D : va_G) (cy : Nat → ClassId) (sz : Nat) (ko : Nat) (ka : Nat → Nat) (κ : Nat → Nat → Int32) (ζ : Nat → Nat → Int64) (pi : Nat) (qi : Nat) (hp : pi < 10) : Met l yX1_isAlias wsX1_isAlias ({ frames := 1, cells := 0, slots := 0, locals := 21 }) (vg_P D cy [.ref ko, .int (nI pi), .int (nI qi)] sz (Kw cy ko ka κ ζ)) (vg_Qi (S := Unit) D sz (Kw cy ko ka κ ζ) (fun r _ => r = (bI (kHas (κ 3 pi) qi))) (fun _ => Kw cy ko ka κ ζ)) 0 0 (va_A (Kw cy ko ka κ ζ) sz) := by
  refine Met.ofW (cc := cX1_isAlias) (maxL := 3) (ret := (some .boolean)) (by decide) rfl ?_
  intro p e s m args below meth c s₁ BB hml hv
  obtain ⟨rfl, hsz, hP, hE, hD0⟩ := hv
  have hx := BB.exec
  have hb := BB.bytes
  have hr := BB.returns
  have hts := atoms_spec (ws := wsX1_isAlias) BB.pre
  have hown : s.vm.findClass RX1 = some m.cls := findClass_of_methodNamed BB.named
  have hlocks := BB.notSynchronized
  subst hsz
  have hD := hD0.self (sz := s.heap.size)
  have hA : ∀ q : Nat, s.heap.size ≤ q → (va_A (Kw cy ko ka κ ζ) s.heap.size) q := fun q h => Or.inr h
  have hS : va_S (va_A (Kw cy ko ka κ ζ) s.heap.size) s.heap s.heap [] := va_S.rf
  have hin_RX1 : ∀ w ∈ u_ws RX1 TX1 7, w ∈ wsX1_isAlias := by decide +kernel
  have hl := lv_entry ([.ref ko, .int (nI pi), .int (nI qi)]) (n := 3) (Nat.le_of_ble_eq_true rfl)
  rw [lg_entry_eq]
  generalize (lg_sl ([.ref ko, .int (nI pi), .int (nI qi)]) ++ List.replicate (3 - (lg_sl ([.ref ko, .int (nI pi), .int (nI qi)])).length) Slot.unset).toArray = ls at hl ⊢
  have hl : lv_has ls 3 [(0, .ref ko), (1, .int (nI pi)), (2, .int (nI qi))] := hl
  refine lv_aload_n hx hb dX1_isAlias_0 rfl (lv_at hl 0 rfl) ?_
  refine va_get (D := D) (ci := 2) (v := .ref (ka 3)) (C := RX1) (T := TX1) (N := 7) hx hb hts hin_RX1 hown hE.1 hP 0 rfl rfl 3 (by decide) (hts (.fieldLink RX1 21 "Villagepost$Knowledge" "aliases" "[I") (by decide +kernel)) (fun _ h9 => h9) rfl dX1_isAlias_1 ?_
  refine lv_iload_n hx hb dX1_isAlias_4 rfl (lv_at hl 1 rfl) ?_
  refine vg_iald hx hb hE.1 hP 4 0 rfl rfl (f := κ 3) (j := pi) (by omega) (by decide) dX1_isAlias_5 ?_
  refine lv_iload_n hx hb dX1_isAlias_6 rfl (lv_at hl 2 rfl) ?_
  refine vg_calliP (va_runSN (As := [.int ((κ 3) pi), .int (nI qi)]) (rest := []) ⟨hx, hb, hml, hown, hts⟩ (kX4_has l D cy s.heap.size (((κ 3) pi)) qi) ⟨va_cnB 2 hts gX1_isAlias_X4_has_n81 rfl rfl rfl (hE.2 (.methodLinkNest RX1 81 yX4_has "Villagepost") (by decide +kernel)) (hts (.initialized RX4) (by decide +kernel)) (by decide +kernel) ⟨Nat.le_of_ble_eq_true rfl, Nat.le_of_ble_eq_true rfl⟩, hts (.static yX4_has) (by decide +kernel), trivial⟩ (vg_P.preS hE vg_P0 (A := fun _ => True) vg_D0) rfl rfl hl.1 rfl (lv_room (Nat.le_of_ble_eq_true rfl)) dX1_isAlias_7 ⟨Nat.le_of_ble_eq_true rfl, Nat.le_of_ble_eq_true rfl⟩) hP hD hS hA (fun r _ H locs hr hP hD hS => ?_)
  subst hr
  refine vg_tp (bI (kHas (κ 3 pi) qi)) (by first | rfl | simp []) ?_
  exact W.zret (v := (bI (kHas (κ 3 pi) qi))) (ty := .boolean) hx hb hr (bI_and _) (fun t ht hW => ⟨⟨(bI (kHas (κ 3 pi) qi)), (), rfl, rfl, (by rw [ht]; exact hP), hD⟩, hS.F ht⟩) hS.2.2 dX1_isAlias_10

set_option maxHeartbeats 4000000 in
set_option maxRecDepth 100000 in
theorem kX1_isBlockBetween (l : Launch) (D : va_G) (cy : Nat → ClassId) (sz : Nat) (ko : Nat) (ka : Nat → Nat) (κ : Nat → Nat → Int32) (ζ : Nat → Nat → Int64) (pi : Nat) (qi : Nat) (hp : pi < 10) (hq : qi < 10) : Met l yX1_isBlockBetween wsX1_isBlockBetween ({ frames := 1, cells := 0, slots := 0, locals := 21 }) (vg_P D cy [.ref ko, .int (nI pi), .int (nI qi)] sz (Kw cy ko ka κ ζ)) (vg_Qi (S := Unit) D sz (Kw cy ko ka κ ζ) (fun r _ => r = (bI (kBet κ pi qi))) (fun _ => Kw cy ko ka κ ζ)) 0 0 (va_A (Kw cy ko ka κ ζ) sz) := by
  refine Met.ofW (cc := cX1_isBlockBetween) (maxL := 3) (ret := (some .boolean)) (by decide) rfl ?_
  intro p e s m args below meth c s₁ BB hml hv
  obtain ⟨rfl, hsz, hP, hE, hD0⟩ := hv
  have hx := BB.exec
  have hb := BB.bytes
  have hr := BB.returns
  have hts := atoms_spec (ws := wsX1_isBlockBetween) BB.pre
  have hown : s.vm.findClass RX1 = some m.cls := findClass_of_methodNamed BB.named
  have hlocks := BB.notSynchronized
  subst hsz
  have hD := hD0.self (sz := s.heap.size)
  have hA : ∀ q : Nat, s.heap.size ≤ q → (va_A (Kw cy ko ka κ ζ) s.heap.size) q := fun q h => Or.inr h
  have hS : va_S (va_A (Kw cy ko ka κ ζ) s.heap.size) s.heap s.heap [] := va_S.rf
  have hin_RX1 : ∀ w ∈ u_ws RX1 TX1 7, w ∈ wsX1_isBlockBetween := by decide +kernel
  have hl := lv_entry ([.ref ko, .int (nI pi), .int (nI qi)]) (n := 3) (Nat.le_of_ble_eq_true rfl)
  rw [lg_entry_eq]
  generalize (lg_sl ([.ref ko, .int (nI pi), .int (nI qi)]) ++ List.replicate (3 - (lg_sl ([.ref ko, .int (nI pi), .int (nI qi)])).length) Slot.unset).toArray = ls at hl ⊢
  have hl : lv_has ls 3 [(0, .ref ko), (1, .int (nI pi)), (2, .int (nI qi))] := hl
  refine lv_aload_n hx hb dX1_isBlockBetween_0 rfl (lv_at hl 0 rfl) ?_
  refine va_get (D := D) (ci := 2) (v := .ref (ka 2)) (C := RX1) (T := TX1) (N := 7) hx hb hts hin_RX1 hown hE.1 hP 0 rfl rfl 2 (by decide) (hts (.fieldLink RX1 18 "Villagepost$Knowledge" "blocks" "[I") (by decide +kernel)) (fun _ h9 => h9) rfl dX1_isBlockBetween_1 ?_
  refine lv_iload_n hx hb dX1_isBlockBetween_4 rfl (lv_at hl 1 rfl) ?_
  refine vg_iald hx hb hE.1 hP 3 0 rfl rfl (f := κ 2) (j := pi) (by omega) (by decide) dX1_isBlockBetween_5 ?_
  refine lv_iload_n hx hb dX1_isBlockBetween_6 rfl (lv_at hl 2 rfl) ?_
  refine vg_calliP (va_runSN (As := [.int ((κ 2) pi), .int (nI qi)]) (rest := []) ⟨hx, hb, hml, hown, hts⟩ (kX4_has l D cy s.heap.size (((κ 2) pi)) qi) ⟨va_cnB 2 hts gX1_isBlockBetween_X4_has_n81 rfl rfl rfl (hE.2 (.methodLinkNest RX1 81 yX4_has "Villagepost") (by decide +kernel)) (hts (.initialized RX4) (by decide +kernel)) (by decide +kernel) ⟨Nat.le_of_ble_eq_true rfl, Nat.le_of_ble_eq_true rfl⟩, hts (.static yX4_has) (by decide +kernel), trivial⟩ (vg_P.preS hE vg_P0 (A := fun _ => True) vg_D0) rfl rfl hl.1 rfl (lv_room (Nat.le_of_ble_eq_true rfl)) dX1_isBlockBetween_7 ⟨Nat.le_of_ble_eq_true rfl, Nat.le_of_ble_eq_true rfl⟩) hP hD hS hA (fun r _ H locs hr hP hD hS => ?_)
  subst hr
  refine lv_if_ne (tgt := 26) hx hb dX1_isBlockBetween_10 (by decide) (fun r1 => ?_) (fun r1 => ?_)
  · have c1 : (kHas (((κ 2) pi)) qi) = true := bI_n0.mp r1
    refine lv_iconst (v := 1) hx hb dX1_isBlockBetween_26 (by decide) ?_
    refine lv_goto (tgt := 31) hx hb dX1_isBlockBetween_27 (by decide) ?_
    refine vg_tp (bI (kBet κ pi qi)) (by simp [kBet, bI, c1]) ?_
    exact W.zret (v := (bI (kBet κ pi qi))) (ty := .boolean) hx hb hr (bI_and _) (fun t ht hW => ⟨⟨(bI (kBet κ pi qi)), (), rfl, rfl, (by rw [ht]; exact hP), hD⟩, hS.F ht⟩) hS.2.2 dX1_isBlockBetween_31
  · have c1 : (kHas (((κ 2) pi)) qi) = false := bI_0.mp r1
    refine lv_aload_n hx hb dX1_isBlockBetween_13 rfl (lv_at hl 0 rfl) ?_
    refine va_get (D := D) (ci := 2) (v := .ref (ka 2)) (C := RX1) (T := TX1) (N := 7) hx hb hts hin_RX1 hown hE.1 hP 0 rfl rfl 2 (by decide) (hts (.fieldLink RX1 18 "Villagepost$Knowledge" "blocks" "[I") (by decide +kernel)) (fun _ h9 => h9) rfl dX1_isBlockBetween_14 ?_
    refine lv_iload_n hx hb dX1_isBlockBetween_17 rfl (lv_at hl 2 rfl) ?_
    refine vg_iald hx hb hE.1 hP 3 0 rfl rfl (f := κ 2) (j := qi) (by omega) (by decide) dX1_isBlockBetween_18 ?_
    refine lv_iload_n hx hb dX1_isBlockBetween_19 rfl (lv_at hl 1 rfl) ?_
    refine vg_calliP (va_runSN (As := [.int ((κ 2) qi), .int (nI pi)]) (rest := []) ⟨hx, hb, hml, hown, hts⟩ (kX4_has l D cy H.size (((κ 2) qi)) pi) ⟨va_cnB 2 hts gX1_isBlockBetween_X4_has_n81 rfl rfl rfl (hE.2 (.methodLinkNest RX1 81 yX4_has "Villagepost") (by decide +kernel)) (hts (.initialized RX4) (by decide +kernel)) (by decide +kernel) ⟨Nat.le_of_ble_eq_true rfl, Nat.le_of_ble_eq_true rfl⟩, hts (.static yX4_has) (by decide +kernel), trivial⟩ (vg_P.preS hE vg_P0 (A := fun _ => True) vg_D0) rfl rfl hl.1 rfl (lv_room (Nat.le_of_ble_eq_true rfl)) dX1_isBlockBetween_20 ⟨Nat.le_of_ble_eq_true rfl, Nat.le_of_ble_eq_true rfl⟩) hP hD hS hA (fun r _ H locs hr hP hD hS => ?_)
    subst hr
    refine lv_if_eq (tgt := 30) hx hb dX1_isBlockBetween_23 (by decide) (fun r2 => ?_) (fun r2 => ?_)
    · have c2 : (kHas (((κ 2) qi)) pi) = false := bI_0.mp r2
      refine lv_iconst (v := 0) hx hb dX1_isBlockBetween_30 (by decide) ?_
      refine vg_tp (bI (kBet κ pi qi)) (by simp [kBet, bI, c1, c2]) ?_
      exact W.zret (v := (bI (kBet κ pi qi))) (ty := .boolean) hx hb hr (bI_and _) (fun t ht hW => ⟨⟨(bI (kBet κ pi qi)), (), rfl, rfl, (by rw [ht]; exact hP), hD⟩, hS.F ht⟩) hS.2.2 dX1_isBlockBetween_31
    · have c2 : (kHas (((κ 2) qi)) pi) = true := bI_n0.mp r2
      refine lv_iconst (v := 1) hx hb dX1_isBlockBetween_26 (by decide) ?_
      refine lv_goto (tgt := 31) hx hb dX1_isBlockBetween_27 (by decide) ?_
      refine vg_tp (bI (kBet κ pi qi)) (by simp [kBet, bI, c1, c2]) ?_
      exact W.zret (v := (bI (kBet κ pi qi))) (ty := .boolean) hx hb hr (bI_and _) (fun t ht hW => ⟨⟨(bI (kBet κ pi qi)), (), rfl, rfl, (by rw [ht]; exact hP), hD⟩, hS.F ht⟩) hS.2.2 dX1_isBlockBetween_31

set_option maxHeartbeats 4000000 in
set_option maxRecDepth 100000 in
theorem kX1_isBoosting (l : Launch) (D : va_G) (cy : Nat → ClassId) (sz : Nat) (ko : Nat) (ka : Nat → Nat) (κ : Nat → Nat → Int32) (ζ : Nat → Nat → Int64) (pi : Nat) (ni : Nat) (hp : pi < 10) : Met l yX1_isBoosting wsX1_isBoosting ({ frames := 1, cells := 0, slots := 0, locals := 22 }) (vg_P D cy [.ref ko, .int (nI pi), .int (nI ni)] sz (Kw cy ko ka κ ζ)) (vg_Qi (S := Unit) D sz (Kw cy ko ka κ ζ) (fun r _ => r = (bI (kHsL (ζ 0 pi) ni))) (fun _ => Kw cy ko ka κ ζ)) 0 0 (va_A (Kw cy ko ka κ ζ) sz) := by
  refine Met.ofW (cc := cX1_isBoosting) (maxL := 3) (ret := (some .boolean)) (by decide) rfl ?_
  intro p e s m args below meth c s₁ BB hml hv
  obtain ⟨rfl, hsz, hP, hE, hD0⟩ := hv
  have hx := BB.exec
  have hb := BB.bytes
  have hr := BB.returns
  have hts := atoms_spec (ws := wsX1_isBoosting) BB.pre
  have hown : s.vm.findClass RX1 = some m.cls := findClass_of_methodNamed BB.named
  have hlocks := BB.notSynchronized
  subst hsz
  have hD := hD0.self (sz := s.heap.size)
  have hA : ∀ q : Nat, s.heap.size ≤ q → (va_A (Kw cy ko ka κ ζ) s.heap.size) q := fun q h => Or.inr h
  have hS : va_S (va_A (Kw cy ko ka κ ζ) s.heap.size) s.heap s.heap [] := va_S.rf
  have hin_RX1 : ∀ w ∈ u_ws RX1 TX1 7, w ∈ wsX1_isBoosting := by decide +kernel
  have hl := lv_entry ([.ref ko, .int (nI pi), .int (nI ni)]) (n := 3) (Nat.le_of_ble_eq_true rfl)
  rw [lg_entry_eq]
  generalize (lg_sl ([.ref ko, .int (nI pi), .int (nI ni)]) ++ List.replicate (3 - (lg_sl ([.ref ko, .int (nI pi), .int (nI ni)])).length) Slot.unset).toArray = ls at hl ⊢
  have hl : lv_has ls 3 [(0, .ref ko), (1, .int (nI pi)), (2, .int (nI ni))] := hl
  refine lv_aload_n hx hb dX1_isBoosting_0 rfl (lv_at hl 0 rfl) ?_
  refine va_get (D := D) (ci := 2) (v := .ref (ka 4)) (C := RX1) (T := TX1) (N := 7) hx hb hts hin_RX1 hown hE.1 hP 0 rfl rfl 4 (by decide) (hts (.fieldLink RX1 24 "Villagepost$Knowledge" "boosts" "[J") (by decide +kernel)) (fun _ h9 => h9) rfl dX1_isBoosting_1 ?_
  refine lv_iload_n hx hb dX1_isBoosting_4 rfl (lv_at hl 1 rfl) ?_
  refine vg_lald hx hb hE.1 hP 5 1 rfl rfl (f := ζ 0) (j := pi) (by omega) (by decide) dX1_isBoosting_5 ?_
  refine lv_iload_n hx hb dX1_isBoosting_6 rfl (lv_at hl 2 rfl) ?_
  refine vg_calliP (va_runSN (As := [.long ((ζ 0) pi), .int (nI ni)]) (rest := []) ⟨hx, hb, hml, hown, hts⟩ (kX4_hasPost l D cy s.heap.size ((ζ 0) pi) ni) ⟨va_cnB 2 hts gX1_isBoosting_X4_hasPost_n84 rfl rfl rfl (hE.2 (.methodLinkNest RX1 84 yX4_hasPost "Villagepost") (by decide +kernel)) (hts (.initialized RX4) (by decide +kernel)) (by decide +kernel) ⟨Nat.le_of_ble_eq_true rfl, Nat.le_of_ble_eq_true rfl⟩, hts (.static yX4_hasPost) (by decide +kernel), trivial⟩ (vg_P.preS hE vg_P0 (A := fun _ => True) vg_D0) rfl rfl hl.1 rfl (lv_room (Nat.le_of_ble_eq_true rfl)) dX1_isBoosting_7 ⟨Nat.le_of_ble_eq_true rfl, Nat.le_of_ble_eq_true rfl⟩) hP hD hS hA (fun r _ H locs hr hP hD hS => ?_)
  subst hr
  refine vg_tp (bI (kHsL (ζ 0 pi) ni)) (by first | rfl | simp []) ?_
  exact W.zret (v := (bI (kHsL (ζ 0 pi) ni))) (ty := .boolean) hx hb hr (bI_and _) (fun t ht hW => ⟨⟨(bI (kHsL (ζ 0 pi) ni)), (), rfl, rfl, (by rw [ht]; exact hP), hD⟩, hS.F ht⟩) hS.2.2 dX1_isBoosting_10

set_option maxHeartbeats 4000000 in
set_option maxRecDepth 100000 in
theorem kX1_isMarked (l : Launch) (D : va_G) (cy : Nat → ClassId) (sz : Nat) (ko : Nat) (ka : Nat → Nat) (κ : Nat → Nat → Int32) (ζ : Nat → Nat → Int64) (ni : Nat)  : Met l yX1_isMarked wsX1_isMarked ({ frames := 1, cells := 0, slots := 0, locals := 22 }) (vg_P D cy [.ref ko, .int (nI ni)] sz (Kw cy ko ka κ ζ)) (vg_Qi (S := Unit) D sz (Kw cy ko ka κ ζ) (fun r _ => r = (bI (kHsL (ζ 2 0) ni))) (fun _ => Kw cy ko ka κ ζ)) 0 0 (va_A (Kw cy ko ka κ ζ) sz) := by
  refine Met.ofW (cc := cX1_isMarked) (maxL := 2) (ret := (some .boolean)) (by decide) rfl ?_
  intro p e s m args below meth c s₁ BB hml hv
  obtain ⟨rfl, hsz, hP, hE, hD0⟩ := hv
  have hx := BB.exec
  have hb := BB.bytes
  have hr := BB.returns
  have hts := atoms_spec (ws := wsX1_isMarked) BB.pre
  have hown : s.vm.findClass RX1 = some m.cls := findClass_of_methodNamed BB.named
  have hlocks := BB.notSynchronized
  subst hsz
  have hD := hD0.self (sz := s.heap.size)
  have hA : ∀ q : Nat, s.heap.size ≤ q → (va_A (Kw cy ko ka κ ζ) s.heap.size) q := fun q h => Or.inr h
  have hS : va_S (va_A (Kw cy ko ka κ ζ) s.heap.size) s.heap s.heap [] := va_S.rf
  have hin_RX1 : ∀ w ∈ u_ws RX1 TX1 7, w ∈ wsX1_isMarked := by decide +kernel
  have hl := lv_entry ([.ref ko, .int (nI ni)]) (n := 2) (Nat.le_of_ble_eq_true rfl)
  rw [lg_entry_eq]
  generalize (lg_sl ([.ref ko, .int (nI ni)]) ++ List.replicate (2 - (lg_sl ([.ref ko, .int (nI ni)])).length) Slot.unset).toArray = ls at hl ⊢
  have hl : lv_has ls 2 [(0, .ref ko), (1, .int (nI ni))] := hl
  refine lv_aload_n hx hb dX1_isMarked_0 rfl (lv_at hl 0 rfl) ?_
  refine va_get (D := D) (ci := 2) (v := .long ((ζ 2) 0)) (C := RX1) (T := TX1) (N := 7) hx hb hts hin_RX1 hown hE.1 hP 0 rfl rfl 6 (by decide) (hts (.fieldLink RX1 32 "Villagepost$Knowledge" "marked" "J") (by decide +kernel)) (fun _ h9 => h9) rfl dX1_isMarked_1 ?_
  refine lv_iload_n hx hb dX1_isMarked_4 rfl (lv_at hl 1 rfl) ?_
  refine vg_calliP (va_runSN (As := [.long ((ζ 2) 0), .int (nI ni)]) (rest := []) ⟨hx, hb, hml, hown, hts⟩ (kX4_hasPost l D cy s.heap.size ((ζ 2) 0) ni) ⟨va_cnB 2 hts gX1_isMarked_X4_hasPost_n84 rfl rfl rfl (hE.2 (.methodLinkNest RX1 84 yX4_hasPost "Villagepost") (by decide +kernel)) (hts (.initialized RX4) (by decide +kernel)) (by decide +kernel) ⟨Nat.le_of_ble_eq_true rfl, Nat.le_of_ble_eq_true rfl⟩, hts (.static yX4_hasPost) (by decide +kernel), trivial⟩ (vg_P.preS hE vg_P0 (A := fun _ => True) vg_D0) rfl rfl hl.1 rfl (lv_room (Nat.le_of_ble_eq_true rfl)) dX1_isMarked_5 ⟨Nat.le_of_ble_eq_true rfl, Nat.le_of_ble_eq_true rfl⟩) hP hD hS hA (fun r _ H locs hr hP hD hS => ?_)
  subst hr
  refine vg_tp (bI (kHsL (ζ 2 0) ni)) (by first | rfl | simp []) ?_
  exact W.zret (v := (bI (kHsL (ζ 2 0) ni))) (ty := .boolean) hx hb hr (bI_and _) (fun t ht hW => ⟨⟨(bI (kHsL (ζ 2 0) ni)), (), rfl, rfl, (by rw [ht]; exact hP), hD⟩, hS.F ht⟩) hS.2.2 dX1_isMarked_8

set_option maxHeartbeats 4000000 in
set_option maxRecDepth 100000 in
theorem kX1_followersOf (l : Launch) (D : va_G) (cy : Nat → ClassId) (sz : Nat) (ko : Nat) (ka : Nat → Nat) (κ : Nat → Nat → Int32) (ζ : Nat → Nat → Int64) (pi : Nat) (hp : pi < 10) : Met l yX1_followersOf wsX1_followersOf ({ frames := 2, cells := 0, slots := 0, locals := 43 }) (vg_P D cy [.ref ko, .int (nI pi)] sz (Kw cy ko ka κ ζ)) (vg_Qi (S := Unit) D sz (Kw cy ko ka κ ζ) (fun r _ => r = (kFo κ pi 10)) (fun _ => Kw cy ko ka κ ζ)) 0 0 (va_A (Kw cy ko ka κ ζ) sz) := by
  refine Met.ofW (cc := cX1_followersOf) (maxL := 4) (ret := (some .int)) (by decide) rfl ?_
  intro p e s m args below meth c s₁ BB hml hv
  obtain ⟨rfl, hsz, hP, hE, hD0⟩ := hv
  have hx := BB.exec
  have hb := BB.bytes
  have hr := BB.returns
  have hts := atoms_spec (ws := wsX1_followersOf) BB.pre
  have hown : s.vm.findClass RX1 = some m.cls := findClass_of_methodNamed BB.named
  have hlocks := BB.notSynchronized
  subst hsz
  have hD := hD0.self (sz := s.heap.size)
  have hA : ∀ q : Nat, s.heap.size ≤ q → (va_A (Kw cy ko ka κ ζ) s.heap.size) q := fun q h => Or.inr h
  have hS : va_S (va_A (Kw cy ko ka κ ζ) s.heap.size) s.heap s.heap [] := va_S.rf
  have hl := lv_entry ([.ref ko, .int (nI pi)]) (n := 4) (Nat.le_of_ble_eq_true rfl)
  rw [lg_entry_eq]
  generalize (lg_sl ([.ref ko, .int (nI pi)]) ++ List.replicate (4 - (lg_sl ([.ref ko, .int (nI pi)])).length) Slot.unset).toArray = ls at hl ⊢
  have hl : lv_has ls 4 [(0, .ref ko), (1, .int (nI pi))] := hl
  have L4 : ∀ (fuel : Nat) (o0 : Nat), 10 - o0 < fuel → (o0 ≤ 10) → ∀ (H : Heap) (locs : List Loc), va_P D vwCl (Kw cy ko ka κ ζ) H → va_D (va_A (Kw cy ko ka κ ζ) s.heap.size) (Kw cy ko ka κ ζ) → va_S (va_A (Kw cy ko ka κ ζ) s.heap.size) s.heap H locs → ∀ ls : Array Slot, lv_has ls 4 [(0, .ref ko), (1, .int (nI pi)), (2, .int (kFo κ pi o0)), (3, .int (nI o0))] → W p l e (headSpec wsX1_followersOf ({ frames := 2, cells := 0, slots := 0, locals := 43 })).room s m ([.ref ko, .int (nI pi)] : List Value).toArray below meth c H locs 0 0 (MQ below (vg_Qi (S := Unit) D s.heap.size (Kw cy ko ka κ ζ) (fun r _ => r = (kFo κ pi 10)) (fun _ => Kw cy ko ka κ ζ)) ([.ref ko, .int (nI pi)] : List Value).toArray s 0 0 (va_A (Kw cy ko ka κ ζ) s.heap.size)) (F0 m 4 ls []) := by
    intro fuel
    induction fuel with
    | zero => intros; omega
    | succ fuel ih =>
      intro o0 hfuel hi H locs hP hD hS ls hl
      refine lv_iload_n hx hb dX1_followersOf_4 rfl (lv_at hl 3 rfl) ?_
      refine lv_bipush (v := 10) hx hb dX1_followersOf_5 (by decide) ?_
      refine lv_icmp_ge (tgt := 32) hx hb dX1_followersOf_7 (by decide) (fun r1 => ?_) (fun r1 => ?_)
      · have c1 : 10 ≤ o0 := (nI_leI (a := 10) (b := o0) (by omega) (by omega)).mp r1
        have e4 : o0 = 10 := by omega
        refine lv_iload_n hx hb dX1_followersOf_32 rfl (lv_at hl 2 rfl) ?_
        refine vg_tp (kFo κ pi 10) (by rw [e4]) ?_
        exact W.iret (v := (kFo κ pi 10)) hx hb hr (fun t ht hW => ⟨⟨(kFo κ pi 10), (), rfl, rfl, (by rw [ht]; exact hP), hD⟩, hS.F ht⟩) hS.2.2 dX1_followersOf_33
      · have c1 : o0 < 10 := Nat.lt_of_not_le (fun q => r1 ((nI_leI (a := 10) (b := o0) (by omega) (by omega)).mpr q))
        refine lv_aload_n hx hb dX1_followersOf_10 rfl (lv_at hl 0 rfl) ?_
        refine lv_iload_n hx hb dX1_followersOf_11 rfl (lv_at hl 3 rfl) ?_
        refine lv_iload_n hx hb dX1_followersOf_12 rfl (lv_at hl 1 rfl) ?_
        refine vg_calliW (va_runV (As := [.int (nI o0), .int (nI pi)]) (rest := []) ⟨hx, hb, hml, hown, hts⟩ (kX1_isFollowing l D cy H.size ko ka κ ζ o0 pi (by omega)) (cwV 2 hts gX1_followersOf_X1_isFollowing rfl rfl rfl (by decide +kernel) ⟨Nat.le_of_ble_eq_true rfl, Nat.le_of_ble_eq_true rfl⟩) (vg_P.preV hE hP 0 rfl rfl hP hD) rfl rfl hl.1 rfl (lv_room (Nat.le_of_ble_eq_true rfl)) dX1_followersOf_13 ⟨Nat.le_of_ble_eq_true rfl, Nat.le_of_ble_eq_true rfl⟩) hP hD hS hA (fun r _ H locs hr hP hD hS => ?_)
        subst hr
        refine lv_if_eq (tgt := 26) hx hb dX1_followersOf_16 (by decide) (fun r2 => ?_) (fun r2 => ?_)
        · have c2 : (kHas ((κ 1) o0) pi) = false := bI_0.mp r2
          refine lv_iinc (v := (nI (o0 + 1))) (lv' := [(3, .int (nI (o0 + 1))), (0, .ref ko), (1, .int (nI pi)), (2, .int (kFo κ pi o0))]) hx hb dX1_followersOf_26 hl (k := 3) rfl (by first | rfl | exact nI_add _ _ | decide) (by decide) rfl (fun ls hl => ?_)
          have hl : lv_has ls 4 [(0, .ref ko), (1, .int (nI pi)), (2, .int (kFo κ pi o0)), (3, .int (nI (o0 + 1)))] := lv_sub hl [1, 2, 3, 0] rfl
          refine lv_goto (tgt := 4) hx hb dX1_followersOf_29 (by decide) ?_
          have q3 : ((kFo κ pi (o0 + 1)) : Int32) = (kFo κ pi o0) := by simp [kFo, c1, c2]
          exact ih (o0 + 1) (by omega) (by omega) _ _ hP hD hS ls (by rw [q3]; exact lv_sub hl [0, 1, 2, 3] rfl)
        · have c2 : (kHas ((κ 1) o0) pi) = true := bI_n0.mp r2
          refine lv_iload_n hx hb dX1_followersOf_19 rfl (lv_at hl 2 rfl) ?_
          refine lv_iload_n hx hb dX1_followersOf_20 rfl (lv_at hl 3 rfl) ?_
          refine vg_calliP (va_runSN (As := [.int (nI o0)]) (rest := [.int (kFo κ pi o0)]) ⟨hx, hb, hml, hown, hts⟩ (kX4_bit l D cy H.size o0) ⟨va_cnB 1 hts gX1_followersOf_X4_bit_n54 rfl rfl rfl (hE.2 (.methodLinkNest RX1 54 yX4_bit "Villagepost") (by decide +kernel)) (hts (.initialized RX4) (by decide +kernel)) (by decide +kernel) ⟨Nat.le_of_ble_eq_true rfl, Nat.le_of_ble_eq_true rfl⟩, hts (.static yX4_bit) (by decide +kernel), trivial⟩ (vg_P.preS hE vg_P0 (A := fun _ => True) vg_D0) rfl rfl hl.1 rfl (lv_room (Nat.le_of_ble_eq_true rfl)) dX1_followersOf_21 ⟨Nat.le_of_ble_eq_true rfl, Nat.le_of_ble_eq_true rfl⟩) hP hD hS hA (fun r _ H locs hr hP hD hS => ?_)
          subst hr
          refine lv_ior hx hb dX1_followersOf_24 ?_
          refine lv_istore_n (lv' := [(2, .int ((kFo κ pi o0) ||| (kBit o0))), (0, .ref ko), (1, .int (nI pi)), (3, .int (nI o0))]) hx hb dX1_followersOf_25 rfl hl (by decide) rfl (fun ls hl => ?_)
          have hl : lv_has ls 4 [(0, .ref ko), (1, .int (nI pi)), (2, .int ((kFo κ pi o0) ||| (kBit o0))), (3, .int (nI o0))] := lv_sub hl [1, 2, 0, 3] rfl
          refine lv_iinc (v := (nI (o0 + 1))) (lv' := [(3, .int (nI (o0 + 1))), (0, .ref ko), (1, .int (nI pi)), (2, .int ((kFo κ pi o0) ||| (kBit o0)))]) hx hb dX1_followersOf_26 hl (k := 3) rfl (by first | rfl | exact nI_add _ _ | decide) (by decide) rfl (fun ls hl => ?_)
          have hl : lv_has ls 4 [(0, .ref ko), (1, .int (nI pi)), (2, .int ((kFo κ pi o0) ||| (kBit o0))), (3, .int (nI (o0 + 1)))] := lv_sub hl [1, 2, 3, 0] rfl
          refine lv_goto (tgt := 4) hx hb dX1_followersOf_29 (by decide) ?_
          have q4 : ((kFo κ pi (o0 + 1)) : Int32) = ((kFo κ pi o0) ||| (kBit o0)) := by simp [kFo, c1, c2]
          exact ih (o0 + 1) (by omega) (by omega) _ _ hP hD hS ls (by rw [q4]; exact lv_sub hl [0, 1, 2, 3] rfl)
  refine lv_iconst (v := 0) hx hb dX1_followersOf_0 (by decide) ?_
  refine lv_istore_n (lv' := [(2, .int 0), (0, .ref ko), (1, .int (nI pi))]) hx hb dX1_followersOf_1 rfl hl (by decide) rfl (fun ls hl => ?_)
  have hl : lv_has ls 4 [(0, .ref ko), (1, .int (nI pi)), (2, .int 0)] := lv_sub hl [1, 2, 0] rfl
  refine lv_iconst (v := 0) hx hb dX1_followersOf_2 (by decide) ?_
  refine lv_istore_n (lv' := [(3, .int 0), (0, .ref ko), (1, .int (nI pi)), (2, .int 0)]) hx hb dX1_followersOf_3 rfl hl (by decide) rfl (fun ls hl => ?_)
  have hl : lv_has ls 4 [(0, .ref ko), (1, .int (nI pi)), (2, .int 0), (3, .int 0)] := lv_sub hl [1, 2, 3, 0] rfl
  have q5 : ((kFo κ pi 0) : Int32) = 0 := by first | rfl | simp []
  have q6 : ((nI 0) : Int32) = 0 := by first | rfl | simp []
  exact L4 ((10 - 0) + 1) 0 (by omega) (by omega) _ _ hP hD hS ls (by rw [q5, q6]; exact lv_sub hl [0, 1, 2, 3] rfl)

set_option maxHeartbeats 4000000 in
set_option maxRecDepth 100000 in
theorem kX1_isSeenBy (l : Launch) (D : va_G) (cy : Nat → ClassId) (sz : Nat) (ko : Nat) (ka : Nat → Nat) (κ : Nat → Nat → Int32) (ζ : Nat → Nat → Int64) (no : Nat) (au : Nat) (kd : Int32) (na : Int32) (th : Int32) (we : Int32) (so : Int32) (pi : Nat) (ni : Nat) (hp : pi < 10) (hau : au < 10) : Met l yX1_isSeenBy wsX1_isSeenBy ({ frames := 2, cells := 0, slots := 0, locals := 43 }) (vg_P D cy [.ref ko, .int (nI pi), .int (nI ni), .ref no] sz (Kw cy ko ka κ ζ ++ (Ow no au kd na th we so))) (vg_Qi (S := Unit) D sz (Kw cy ko ka κ ζ ++ (Ow no au kd na th we so)) (fun r _ => r = (bI (kSee κ ζ pi ni au kd na))) (fun _ => Kw cy ko ka κ ζ ++ (Ow no au kd na th we so))) 0 0 (va_A (Kw cy ko ka κ ζ ++ (Ow no au kd na th we so)) sz) := by
  refine Met.ofW (cc := cX1_isSeenBy) (maxL := 4) (ret := (some .boolean)) (by decide) rfl ?_
  intro p e s m args below meth c s₁ BB hml hv
  obtain ⟨rfl, hsz, hP, hE, hD0⟩ := hv
  have hx := BB.exec
  have hb := BB.bytes
  have hr := BB.returns
  have hts := atoms_spec (ws := wsX1_isSeenBy) BB.pre
  have hown : s.vm.findClass RX1 = some m.cls := findClass_of_methodNamed BB.named
  have hlocks := BB.notSynchronized
  subst hsz
  have hD := hD0.self (sz := s.heap.size)
  have hA : ∀ q : Nat, s.heap.size ≤ q → (va_A (Kw cy ko ka κ ζ ++ (Ow no au kd na th we so)) s.heap.size) q := fun q h => Or.inr h
  have hS : va_S (va_A (Kw cy ko ka κ ζ ++ (Ow no au kd na th we so)) s.heap.size) s.heap s.heap [] := va_S.rf
  have hin_RX1 : ∀ w ∈ u_ws RX1 TX1 7, w ∈ wsX1_isSeenBy := by decide +kernel
  have hin_RX2 : ∀ w ∈ u_ws RX2 TX2 6, w ∈ wsX1_isSeenBy := by decide +kernel
  have hl := lv_entry ([.ref ko, .int (nI pi), .int (nI ni), .ref no]) (n := 4) (Nat.le_of_ble_eq_true rfl)
  rw [lg_entry_eq]
  generalize (lg_sl ([.ref ko, .int (nI pi), .int (nI ni), .ref no]) ++ List.replicate (4 - (lg_sl ([.ref ko, .int (nI pi), .int (nI ni), .ref no])).length) Slot.unset).toArray = ls at hl ⊢
  have hl : lv_has ls 4 [(0, .ref ko), (1, .int (nI pi)), (2, .int (nI ni)), (3, .ref no)] := hl
  refine lv_aload_n hx hb dX1_isSeenBy_0 rfl (lv_at hl 0 rfl) ?_
  refine va_get (D := D) (ci := 2) (v := .long ((ζ 1) 0)) (C := RX1) (T := TX1) (N := 7) hx hb hts hin_RX1 hown hE.1 hP 0 rfl rfl 5 (by decide) (hts (.fieldLink RX1 28 "Villagepost$Knowledge" "arrived" "J") (by decide +kernel)) (fun _ h9 => h9) rfl dX1_isSeenBy_1 ?_
  refine lv_aload_n hx hb dX1_isSeenBy_4 rfl (lv_at hl 0 rfl) ?_
  refine va_get (D := D) (ci := 2) (v := .long ((ζ 2) 0)) (C := RX1) (T := TX1) (N := 7) hx hb hts hin_RX1 hown hE.1 hP 0 rfl rfl 6 (by decide) (hts (.fieldLink RX1 32 "Villagepost$Knowledge" "marked" "J") (by decide +kernel)) (fun _ h9 => h9) rfl dX1_isSeenBy_5 ?_
  refine lv_ldc2 (own := RX1) (index := 88) (v := (-1)) hx hb hown (hts (.constantLong RX1 88 (-1)) (by decide +kernel)) dX1_isSeenBy_8 ?_
  refine lv_lxor hx hb dX1_isSeenBy_11 ?_
  refine lv_land hx hb dX1_isSeenBy_12 ?_
  refine vg_tpl (kLive ζ) (rfl) ?_
  refine lv_iload_n hx hb dX1_isSeenBy_13 rfl (lv_at hl 2 rfl) ?_
  refine vg_calliP (va_runSN (As := [.long (kLive ζ), .int (nI ni)]) (rest := []) ⟨hx, hb, hml, hown, hts⟩ (kX4_hasPost l D cy s.heap.size (kLive ζ) ni) ⟨va_cnB 2 hts gX1_isSeenBy_X4_hasPost_n84 rfl rfl rfl (hE.2 (.methodLinkNest RX1 84 yX4_hasPost "Villagepost") (by decide +kernel)) (hts (.initialized RX4) (by decide +kernel)) (by decide +kernel) ⟨Nat.le_of_ble_eq_true rfl, Nat.le_of_ble_eq_true rfl⟩, hts (.static yX4_hasPost) (by decide +kernel), trivial⟩ (vg_P.preS hE vg_P0 (A := fun _ => True) vg_D0) rfl rfl hl.1 rfl (lv_room (Nat.le_of_ble_eq_true rfl)) dX1_isSeenBy_14 ⟨Nat.le_of_ble_eq_true rfl, Nat.le_of_ble_eq_true rfl⟩) hP hD hS hA (fun r _ H locs hr hP hD hS => ?_)
  subst hr
  refine lv_if_eq (tgt := 32) hx hb dX1_isSeenBy_17 (by decide) (fun r1 => ?_) (fun r1 => ?_)
  · have c1 : (kHsL (kLive ζ) ni) = false := bI_0.mp r1
    refine lv_iconst (v := 0) hx hb dX1_isSeenBy_32 (by decide) ?_
    refine vg_tp (bI (kSee κ ζ pi ni au kd na)) (by simp [kSee, bI, c1]) ?_
    exact W.zret (v := (bI (kSee κ ζ pi ni au kd na))) (ty := .boolean) hx hb hr (bI_and _) (fun t ht hW => ⟨⟨(bI (kSee κ ζ pi ni au kd na)), (), rfl, rfl, (by rw [ht]; exact hP), hD⟩, hS.F ht⟩) hS.2.2 dX1_isSeenBy_33
  · have c1 : (kHsL (kLive ζ) ni) = true := bI_n0.mp r1
    refine lv_aload_n hx hb dX1_isSeenBy_20 rfl (lv_at hl 0 rfl) ?_
    refine lv_iload_n hx hb dX1_isSeenBy_21 rfl (lv_at hl 1 rfl) ?_
    refine lv_aload_n hx hb dX1_isSeenBy_22 rfl (lv_at hl 3 rfl) ?_
    refine va_get (D := D) (ci := 3) (v := .int (nI au)) (C := RX2) (T := TX2) (N := 6) hx hb hts hin_RX2 hown hE.1 hP 6 rfl rfl 0 (by decide) (hts (.fieldLink RX1 90 "Villagepost$Note" "author" "I") (by decide +kernel)) (fun _ h9 => h9) rfl dX1_isSeenBy_23 ?_
    refine vg_calli (pre := Kw cy ko ka κ ζ ++ (Ow no au kd na th we so)) (RR := []) (wc := Kw cy ko ka κ ζ) (wr := Ow no au kd na th we so) (va_runV (As := [.int (nI pi), .int (nI au)]) (rest := []) ⟨hx, hb, hml, hown, hts⟩ (kX1_isBlockBetween l D cy H.size ko ka κ ζ pi au (by omega) (by omega)) (cwV 2 hts gX1_isSeenBy_X1_isBlockBetween rfl rfl rfl (by decide +kernel) ⟨Nat.le_of_ble_eq_true rfl, Nat.le_of_ble_eq_true rfl⟩) (vg_P.preV hE hP 0 rfl rfl (va_P.sub (ws' := Kw cy ko ka κ ζ) hP [0, 1, 2, 3, 4, 5] rfl) (va_D.sub (ws' := Kw cy ko ka κ ζ) hD [0, 1, 2, 3, 4, 5] (by decide) rfl)) rfl rfl hl.1 rfl (lv_room (Nat.le_of_ble_eq_true rfl)) dX1_isSeenBy_26 ⟨Nat.le_of_ble_eq_true rfl, Nat.le_of_ble_eq_true rfl⟩) hP hD hS hA [0, 1, 2, 3, 4, 5] [6] rfl rfl (by decide) (by decide) (fun r _ H locs hr hP hD hS => ?_)
    subst hr
    have hP : va_P D vwCl (Kw cy ko ka κ ζ ++ (Ow no au kd na th we so)) H := hP
    have hD : va_D (va_A (Kw cy ko ka κ ζ ++ (Ow no au kd na th we so)) s.heap.size) (Kw cy ko ka κ ζ ++ (Ow no au kd na th we so)) := hD
    refine lv_if_eq (tgt := 34) hx hb dX1_isSeenBy_29 (by decide) (fun r2 => ?_) (fun r2 => ?_)
    · have c2 : (kBet κ pi au) = false := bI_0.mp r2
      refine lv_aload_n hx hb dX1_isSeenBy_34 rfl (lv_at hl 3 rfl) ?_
      refine va_get (D := D) (ci := 3) (v := .int (nI au)) (C := RX2) (T := TX2) (N := 6) hx hb hts hin_RX2 hown hE.1 hP 6 rfl rfl 0 (by decide) (hts (.fieldLink RX1 90 "Villagepost$Note" "author" "I") (by decide +kernel)) (fun _ h9 => h9) rfl dX1_isSeenBy_35 ?_
      refine lv_iload_n hx hb dX1_isSeenBy_38 rfl (lv_at hl 1 rfl) ?_
      refine lv_icmp_eq (tgt := 80) hx hb dX1_isSeenBy_39 (by decide) (fun r3 => ?_) (fun r3 => ?_)
      · have c3 : au = pi := (nI_eq (a := au) (b := pi) (by omega) (by omega)).mp r3
        refine lv_iconst (v := 1) hx hb dX1_isSeenBy_80 (by decide) ?_
        refine lv_goto (tgt := 85) hx hb dX1_isSeenBy_81 (by decide) ?_
        refine vg_tp (bI (kSee κ ζ pi ni au kd na)) (by simp [kSee, bI, c1, c2, eq_true c3]) ?_
        exact W.zret (v := (bI (kSee κ ζ pi ni au kd na))) (ty := .boolean) hx hb hr (bI_and _) (fun t ht hW => ⟨⟨(bI (kSee κ ζ pi ni au kd na)), (), rfl, rfl, (by rw [ht]; exact hP), hD⟩, hS.F ht⟩) hS.2.2 dX1_isSeenBy_85
      · have c3 : ¬ au = pi := fun q => r3 ((nI_eq (a := au) (b := pi) (by omega) (by omega)).mpr q)
        refine lv_aload_n hx hb dX1_isSeenBy_42 rfl (lv_at hl 3 rfl) ?_
        refine va_get (D := D) (ci := 3) (v := .int na) (C := RX2) (T := TX2) (N := 6) hx hb hts hin_RX2 hown hE.1 hP 6 rfl rfl 2 (by decide) (hts (.fieldLink RX1 95 "Villagepost$Note" "named" "I") (by decide +kernel)) (fun _ h9 => h9) rfl dX1_isSeenBy_43 ?_
        refine lv_iload_n hx hb dX1_isSeenBy_46 rfl (lv_at hl 1 rfl) ?_
        refine vg_calliP (va_runSN (As := [.int na, .int (nI pi)]) (rest := []) ⟨hx, hb, hml, hown, hts⟩ (kX4_has l D cy H.size na pi) ⟨va_cnB 2 hts gX1_isSeenBy_X4_has_n81 rfl rfl rfl (hE.2 (.methodLinkNest RX1 81 yX4_has "Villagepost") (by decide +kernel)) (hts (.initialized RX4) (by decide +kernel)) (by decide +kernel) ⟨Nat.le_of_ble_eq_true rfl, Nat.le_of_ble_eq_true rfl⟩, hts (.static yX4_has) (by decide +kernel), trivial⟩ (vg_P.preS hE vg_P0 (A := fun _ => True) vg_D0) rfl rfl hl.1 rfl (lv_room (Nat.le_of_ble_eq_true rfl)) dX1_isSeenBy_47 ⟨Nat.le_of_ble_eq_true rfl, Nat.le_of_ble_eq_true rfl⟩) hP hD hS hA (fun r _ H locs hr hP hD hS => ?_)
        subst hr
        refine lv_if_ne (tgt := 80) hx hb dX1_isSeenBy_50 (by decide) (fun r4 => ?_) (fun r4 => ?_)
        · have c4 : (kHas na pi) = true := bI_n0.mp r4
          refine lv_iconst (v := 1) hx hb dX1_isSeenBy_80 (by decide) ?_
          refine lv_goto (tgt := 85) hx hb dX1_isSeenBy_81 (by decide) ?_
          refine vg_tp (bI (kSee κ ζ pi ni au kd na)) (by simp [kSee, bI, c1, c2, c3, c4]) ?_
          exact W.zret (v := (bI (kSee κ ζ pi ni au kd na))) (ty := .boolean) hx hb hr (bI_and _) (fun t ht hW => ⟨⟨(bI (kSee κ ζ pi ni au kd na)), (), rfl, rfl, (by rw [ht]; exact hP), hD⟩, hS.F ht⟩) hS.2.2 dX1_isSeenBy_85
        · have c4 : (kHas na pi) = false := bI_0.mp r4
          refine lv_aload_n hx hb dX1_isSeenBy_53 rfl (lv_at hl 3 rfl) ?_
          refine va_get (D := D) (ci := 3) (v := .int kd) (C := RX2) (T := TX2) (N := 6) hx hb hts hin_RX2 hown hE.1 hP 6 rfl rfl 1 (by decide) (hts (.fieldLink RX1 98 "Villagepost$Note" "kind" "I") (by decide +kernel)) (fun _ h9 => h9) rfl dX1_isSeenBy_54 ?_
          refine lv_if_eq (tgt := 80) hx hb dX1_isSeenBy_57 (by decide) (fun r5 => ?_) (fun r5 => ?_)
          · have c5 := r5
            refine lv_iconst (v := 1) hx hb dX1_isSeenBy_80 (by decide) ?_
            refine lv_goto (tgt := 85) hx hb dX1_isSeenBy_81 (by decide) ?_
            refine vg_tp (bI (kSee κ ζ pi ni au kd na)) (by simp [kSee, bI, c1, c2, c3, c4, c5]) ?_
            exact W.zret (v := (bI (kSee κ ζ pi ni au kd na))) (ty := .boolean) hx hb hr (bI_and _) (fun t ht hW => ⟨⟨(bI (kSee κ ζ pi ni au kd na)), (), rfl, rfl, (by rw [ht]; exact hP), hD⟩, hS.F ht⟩) hS.2.2 dX1_isSeenBy_85
          · have c5 := r5
            refine lv_aload_n hx hb dX1_isSeenBy_60 rfl (lv_at hl 3 rfl) ?_
            refine va_get (D := D) (ci := 3) (v := .int kd) (C := RX2) (T := TX2) (N := 6) hx hb hts hin_RX2 hown hE.1 hP 6 rfl rfl 1 (by decide) (hts (.fieldLink RX1 98 "Villagepost$Note" "kind" "I") (by decide +kernel)) (fun _ h9 => h9) rfl dX1_isSeenBy_61 ?_
            refine lv_iconst (v := 1) hx hb dX1_isSeenBy_64 (by decide) ?_
            refine lv_icmp_ne (tgt := 84) hx hb dX1_isSeenBy_65 (by decide) (fun r6 => ?_) (fun r6 => ?_)
            · have c6 := r6
              refine lv_iconst (v := 0) hx hb dX1_isSeenBy_84 (by decide) ?_
              refine vg_tp (bI (kSee κ ζ pi ni au kd na)) (by simp [kSee, bI, c1, c2, c3, c4, c5, c6]) ?_
              exact W.zret (v := (bI (kSee κ ζ pi ni au kd na))) (ty := .boolean) hx hb hr (bI_and _) (fun t ht hW => ⟨⟨(bI (kSee κ ζ pi ni au kd na)), (), rfl, rfl, (by rw [ht]; exact hP), hD⟩, hS.F ht⟩) hS.2.2 dX1_isSeenBy_85
            · have c6 := r6
              refine lv_aload_n hx hb dX1_isSeenBy_68 rfl (lv_at hl 0 rfl) ?_
              refine lv_iload_n hx hb dX1_isSeenBy_69 rfl (lv_at hl 1 rfl) ?_
              refine lv_aload_n hx hb dX1_isSeenBy_70 rfl (lv_at hl 3 rfl) ?_
              refine va_get (D := D) (ci := 3) (v := .int (nI au)) (C := RX2) (T := TX2) (N := 6) hx hb hts hin_RX2 hown hE.1 hP 6 rfl rfl 0 (by decide) (hts (.fieldLink RX1 90 "Villagepost$Note" "author" "I") (by decide +kernel)) (fun _ h9 => h9) rfl dX1_isSeenBy_71 ?_
              refine vg_calli (pre := Kw cy ko ka κ ζ ++ (Ow no au kd na th we so)) (RR := []) (wc := Kw cy ko ka κ ζ) (wr := Ow no au kd na th we so) (va_runV (As := [.int (nI pi), .int (nI au)]) (rest := []) ⟨hx, hb, hml, hown, hts⟩ (kX1_isFollowing l D cy H.size ko ka κ ζ pi au (by omega)) (cwV 2 hts gX1_isSeenBy_X1_isFollowing rfl rfl rfl (by decide +kernel) ⟨Nat.le_of_ble_eq_true rfl, Nat.le_of_ble_eq_true rfl⟩) (vg_P.preV hE hP 0 rfl rfl (va_P.sub (ws' := Kw cy ko ka κ ζ) hP [0, 1, 2, 3, 4, 5] rfl) (va_D.sub (ws' := Kw cy ko ka κ ζ) hD [0, 1, 2, 3, 4, 5] (by decide) rfl)) rfl rfl hl.1 rfl (lv_room (Nat.le_of_ble_eq_true rfl)) dX1_isSeenBy_74 ⟨Nat.le_of_ble_eq_true rfl, Nat.le_of_ble_eq_true rfl⟩) hP hD hS hA [0, 1, 2, 3, 4, 5] [6] rfl rfl (by decide) (by decide) (fun r _ H locs hr hP hD hS => ?_)
              subst hr
              have hP : va_P D vwCl (Kw cy ko ka κ ζ ++ (Ow no au kd na th we so)) H := hP
              have hD : va_D (va_A (Kw cy ko ka κ ζ ++ (Ow no au kd na th we so)) s.heap.size) (Kw cy ko ka κ ζ ++ (Ow no au kd na th we so)) := hD
              refine lv_if_eq (tgt := 84) hx hb dX1_isSeenBy_77 (by decide) (fun r7 => ?_) (fun r7 => ?_)
              · have c7 : (kHas ((κ 1) pi) au) = false := bI_0.mp r7
                refine lv_iconst (v := 0) hx hb dX1_isSeenBy_84 (by decide) ?_
                refine vg_tp (bI (kSee κ ζ pi ni au kd na)) (by simp [kSee, bI, c1, c2, c3, c4, c5, c6, c7]) ?_
                exact W.zret (v := (bI (kSee κ ζ pi ni au kd na))) (ty := .boolean) hx hb hr (bI_and _) (fun t ht hW => ⟨⟨(bI (kSee κ ζ pi ni au kd na)), (), rfl, rfl, (by rw [ht]; exact hP), hD⟩, hS.F ht⟩) hS.2.2 dX1_isSeenBy_85
              · have c7 : (kHas ((κ 1) pi) au) = true := bI_n0.mp r7
                refine lv_iconst (v := 1) hx hb dX1_isSeenBy_80 (by decide) ?_
                refine lv_goto (tgt := 85) hx hb dX1_isSeenBy_81 (by decide) ?_
                refine vg_tp (bI (kSee κ ζ pi ni au kd na)) (by simp [kSee, bI, c1, c2, c3, c4, c5, c6, c7]) ?_
                exact W.zret (v := (bI (kSee κ ζ pi ni au kd na))) (ty := .boolean) hx hb hr (bI_and _) (fun t ht hW => ⟨⟨(bI (kSee κ ζ pi ni au kd na)), (), rfl, rfl, (by rw [ht]; exact hP), hD⟩, hS.F ht⟩) hS.2.2 dX1_isSeenBy_85
    · have c2 : (kBet κ pi au) = true := bI_n0.mp r2
      refine lv_iconst (v := 0) hx hb dX1_isSeenBy_32 (by decide) ?_
      refine vg_tp (bI (kSee κ ζ pi ni au kd na)) (by simp [kSee, bI, c1, c2]) ?_
      exact W.zret (v := (bI (kSee κ ζ pi ni au kd na))) (ty := .boolean) hx hb hr (bI_and _) (fun t ht hW => ⟨⟨(bI (kSee κ ζ pi ni au kd na)), (), rfl, rfl, (by rw [ht]; exact hP), hD⟩, hS.F ht⟩) hS.2.2 dX1_isSeenBy_33

set_option maxHeartbeats 4000000 in
set_option maxRecDepth 100000 in
theorem kX1_isBoostedFor (l : Launch) (D : va_G) (cy : Nat → ClassId) (sz : Nat) (ko : Nat) (ka : Nat → Nat) (κ : Nat → Nat → Int32) (ζ : Nat → Nat → Int64) (pi : Nat) (ni : Nat) (hp : pi < 10) : Met l yX1_isBoostedFor wsX1_isBoostedFor ({ frames := 2, cells := 0, slots := 0, locals := 44 }) (vg_P D cy [.ref ko, .int (nI pi), .int (nI ni)] sz (Kw cy ko ka κ ζ)) (vg_Qi (S := Unit) D sz (Kw cy ko ka κ ζ) (fun r _ => r = (bI (kBf κ ζ pi ni 10))) (fun _ => Kw cy ko ka κ ζ)) 0 0 (va_A (Kw cy ko ka κ ζ) sz) := by
  refine Met.ofW (cc := cX1_isBoostedFor) (maxL := 4) (ret := (some .boolean)) (by decide) rfl ?_
  intro p e s m args below meth c s₁ BB hml hv
  obtain ⟨rfl, hsz, hP, hE, hD0⟩ := hv
  have hx := BB.exec
  have hb := BB.bytes
  have hr := BB.returns
  have hts := atoms_spec (ws := wsX1_isBoostedFor) BB.pre
  have hown : s.vm.findClass RX1 = some m.cls := findClass_of_methodNamed BB.named
  have hlocks := BB.notSynchronized
  subst hsz
  have hD := hD0.self (sz := s.heap.size)
  have hA : ∀ q : Nat, s.heap.size ≤ q → (va_A (Kw cy ko ka κ ζ) s.heap.size) q := fun q h => Or.inr h
  have hS : va_S (va_A (Kw cy ko ka κ ζ) s.heap.size) s.heap s.heap [] := va_S.rf
  have hl := lv_entry ([.ref ko, .int (nI pi), .int (nI ni)]) (n := 4) (Nat.le_of_ble_eq_true rfl)
  rw [lg_entry_eq]
  generalize (lg_sl ([.ref ko, .int (nI pi), .int (nI ni)]) ++ List.replicate (4 - (lg_sl ([.ref ko, .int (nI pi), .int (nI ni)])).length) Slot.unset).toArray = ls at hl ⊢
  have hl : lv_has ls 4 [(0, .ref ko), (1, .int (nI pi)), (2, .int (nI ni))] := hl
  have L2 : ∀ (fuel : Nat) (o0 : Nat), 10 - o0 < fuel → (o0 ≤ 10) → (kBf κ ζ pi ni o0 = false) → ∀ (H : Heap) (locs : List Loc), va_P D vwCl (Kw cy ko ka κ ζ) H → va_D (va_A (Kw cy ko ka κ ζ) s.heap.size) (Kw cy ko ka κ ζ) → va_S (va_A (Kw cy ko ka κ ζ) s.heap.size) s.heap H locs → ∀ ls : Array Slot, lv_has ls 4 [(0, .ref ko), (1, .int (nI pi)), (2, .int (nI ni)), (3, .int (nI o0))] → W p l e (headSpec wsX1_isBoostedFor ({ frames := 2, cells := 0, slots := 0, locals := 44 })).room s m ([.ref ko, .int (nI pi), .int (nI ni)] : List Value).toArray below meth c H locs 0 0 (MQ below (vg_Qi (S := Unit) D s.heap.size (Kw cy ko ka κ ζ) (fun r _ => r = (bI (kBf κ ζ pi ni 10))) (fun _ => Kw cy ko ka κ ζ)) ([.ref ko, .int (nI pi), .int (nI ni)] : List Value).toArray s 0 0 (va_A (Kw cy ko ka κ ζ) s.heap.size)) (F0 m 2 ls []) := by
    intro fuel
    induction fuel with
    | zero => intros; omega
    | succ fuel ih =>
      intro o0 hfuel hi hf H locs hP hD hS ls hl
      refine lv_iload_n hx hb dX1_isBoostedFor_2 rfl (lv_at hl 3 rfl) ?_
      refine lv_bipush (v := 10) hx hb dX1_isBoostedFor_3 (by decide) ?_
      refine lv_icmp_ge (tgt := 34) hx hb dX1_isBoostedFor_5 (by decide) (fun r1 => ?_) (fun r1 => ?_)
      · have c1 : 10 ≤ o0 := (nI_leI (a := 10) (b := o0) (by omega) (by omega)).mp r1
        have e4 : o0 = 10 := by omega
        refine lv_iconst (v := 0) hx hb dX1_isBoostedFor_34 (by decide) ?_
        refine vg_tp (bI (kBf κ ζ pi ni 10)) (by rw [← e4, hf]; rfl) ?_
        exact W.zret (v := (bI (kBf κ ζ pi ni 10))) (ty := .boolean) hx hb hr (bI_and _) (fun t ht hW => ⟨⟨(bI (kBf κ ζ pi ni 10)), (), rfl, rfl, (by rw [ht]; exact hP), hD⟩, hS.F ht⟩) hS.2.2 dX1_isBoostedFor_35
      · have c1 : o0 < 10 := Nat.lt_of_not_le (fun q => r1 ((nI_leI (a := 10) (b := o0) (by omega) (by omega)).mpr q))
        refine lv_aload_n hx hb dX1_isBoostedFor_8 rfl (lv_at hl 0 rfl) ?_
        refine lv_iload_n hx hb dX1_isBoostedFor_9 rfl (lv_at hl 1 rfl) ?_
        refine lv_iload_n hx hb dX1_isBoostedFor_10 rfl (lv_at hl 3 rfl) ?_
        refine vg_calliW (va_runV (As := [.int (nI pi), .int (nI o0)]) (rest := []) ⟨hx, hb, hml, hown, hts⟩ (kX1_isFollowing l D cy H.size ko ka κ ζ pi o0 (by omega)) (cwV 2 hts gX1_isBoostedFor_X1_isFollowing rfl rfl rfl (by decide +kernel) ⟨Nat.le_of_ble_eq_true rfl, Nat.le_of_ble_eq_true rfl⟩) (vg_P.preV hE hP 0 rfl rfl hP hD) rfl rfl hl.1 rfl (lv_room (Nat.le_of_ble_eq_true rfl)) dX1_isBoostedFor_11 ⟨Nat.le_of_ble_eq_true rfl, Nat.le_of_ble_eq_true rfl⟩) hP hD hS hA (fun r _ H locs hr hP hD hS => ?_)
        subst hr
        refine lv_if_eq (tgt := 28) hx hb dX1_isBoostedFor_14 (by decide) (fun r2 => ?_) (fun r2 => ?_)
        · have c2 : (kHas ((κ 1) pi) o0) = false := bI_0.mp r2
          refine lv_iinc (v := (nI (o0 + 1))) (lv' := [(3, .int (nI (o0 + 1))), (0, .ref ko), (1, .int (nI pi)), (2, .int (nI ni))]) hx hb dX1_isBoostedFor_28 hl (k := 3) rfl (by first | rfl | exact nI_add _ _ | decide) (by decide) rfl (fun ls hl => ?_)
          have hl : lv_has ls 4 [(0, .ref ko), (1, .int (nI pi)), (2, .int (nI ni)), (3, .int (nI (o0 + 1)))] := lv_sub hl [1, 2, 3, 0] rfl
          refine lv_goto (tgt := 2) hx hb dX1_isBoostedFor_31 (by decide) ?_
          exact ih (o0 + 1) (by omega) (by omega) (by simp [kBf, hf, c1, c2]) _ _ hP hD hS ls (by exact lv_sub hl [0, 1, 2, 3] rfl)
        · have c2 : (kHas ((κ 1) pi) o0) = true := bI_n0.mp r2
          refine lv_aload_n hx hb dX1_isBoostedFor_17 rfl (lv_at hl 0 rfl) ?_
          refine lv_iload_n hx hb dX1_isBoostedFor_18 rfl (lv_at hl 3 rfl) ?_
          refine lv_iload_n hx hb dX1_isBoostedFor_19 rfl (lv_at hl 2 rfl) ?_
          refine vg_calliW (va_runV (As := [.int (nI o0), .int (nI ni)]) (rest := []) ⟨hx, hb, hml, hown, hts⟩ (kX1_isBoosting l D cy H.size ko ka κ ζ o0 ni (by omega)) (cwV 2 hts gX1_isBoostedFor_X1_isBoosting rfl rfl rfl (by decide +kernel) ⟨Nat.le_of_ble_eq_true rfl, Nat.le_of_ble_eq_true rfl⟩) (vg_P.preV hE hP 0 rfl rfl hP hD) rfl rfl hl.1 rfl (lv_room (Nat.le_of_ble_eq_true rfl)) dX1_isBoostedFor_20 ⟨Nat.le_of_ble_eq_true rfl, Nat.le_of_ble_eq_true rfl⟩) hP hD hS hA (fun r _ H locs hr hP hD hS => ?_)
          subst hr
          refine lv_if_eq (tgt := 28) hx hb dX1_isBoostedFor_23 (by decide) (fun r3 => ?_) (fun r3 => ?_)
          · have c3 : (kHsL ((ζ 0) o0) ni) = false := bI_0.mp r3
            refine lv_iinc (v := (nI (o0 + 1))) (lv' := [(3, .int (nI (o0 + 1))), (0, .ref ko), (1, .int (nI pi)), (2, .int (nI ni))]) hx hb dX1_isBoostedFor_28 hl (k := 3) rfl (by first | rfl | exact nI_add _ _ | decide) (by decide) rfl (fun ls hl => ?_)
            have hl : lv_has ls 4 [(0, .ref ko), (1, .int (nI pi)), (2, .int (nI ni)), (3, .int (nI (o0 + 1)))] := lv_sub hl [1, 2, 3, 0] rfl
            refine lv_goto (tgt := 2) hx hb dX1_isBoostedFor_31 (by decide) ?_
            exact ih (o0 + 1) (by omega) (by omega) (by simp [kBf, hf, c1, c2, c3]) _ _ hP hD hS ls (by exact lv_sub hl [0, 1, 2, 3] rfl)
          · have c3 : (kHsL ((ζ 0) o0) ni) = true := bI_n0.mp r3
            refine lv_iconst (v := 1) hx hb dX1_isBoostedFor_26 (by decide) ?_
            refine vg_tp (bI (kBf κ ζ pi ni 10)) (by rw [kBf_of κ ζ pi ni c2 c3 10 (by omega)]; rfl) ?_
            exact W.zret (v := (bI (kBf κ ζ pi ni 10))) (ty := .boolean) hx hb hr (bI_and _) (fun t ht hW => ⟨⟨(bI (kBf κ ζ pi ni 10)), (), rfl, rfl, (by rw [ht]; exact hP), hD⟩, hS.F ht⟩) hS.2.2 dX1_isBoostedFor_27
  refine lv_iconst (v := 0) hx hb dX1_isBoostedFor_0 (by decide) ?_
  refine lv_istore_n (lv' := [(3, .int 0), (0, .ref ko), (1, .int (nI pi)), (2, .int (nI ni))]) hx hb dX1_isBoostedFor_1 rfl hl (by decide) rfl (fun ls hl => ?_)
  have hl : lv_has ls 4 [(0, .ref ko), (1, .int (nI pi)), (2, .int (nI ni)), (3, .int 0)] := lv_sub hl [1, 2, 3, 0] rfl
  have q4 : ((nI 0) : Int32) = 0 := by first | rfl | simp []
  exact L2 ((10 - 0) + 1) 0 (by omega) (by omega) (rfl) _ _ hP hD hS ls (by rw [q4]; exact lv_sub hl [0, 1, 2, 3] rfl)

set_option maxHeartbeats 4000000 in
set_option maxRecDepth 100000 in
theorem kX1_isAtHomeOf (l : Launch) (D : va_G) (cy : Nat → ClassId) (sz : Nat) (ko : Nat) (ka : Nat → Nat) (κ : Nat → Nat → Int32) (ζ : Nat → Nat → Int64) (no : Nat) (au : Nat) (kd : Int32) (na : Int32) (th : Int32) (we : Int32) (so : Int32) (pi : Nat) (ni : Nat) (hp : pi < 10) (hau : au < 10) : Met l yX1_isAtHomeOf wsX1_isAtHomeOf ({ frames := 3, cells := 0, slots := 0, locals := 67 }) (vg_P D cy [.ref ko, .int (nI pi), .int (nI ni), .ref no] sz (Kw cy ko ka κ ζ ++ (Ow no au kd na th we so))) (vg_Qi (S := Unit) D sz (Kw cy ko ka κ ζ ++ (Ow no au kd na th we so)) (fun r _ => r = (bI (kAth κ ζ pi ni au kd na))) (fun _ => Kw cy ko ka κ ζ ++ (Ow no au kd na th we so))) 0 0 (va_A (Kw cy ko ka κ ζ ++ (Ow no au kd na th we so)) sz) := by
  refine Met.ofW (cc := cX1_isAtHomeOf) (maxL := 4) (ret := (some .boolean)) (by decide) rfl ?_
  intro p e s m args below meth c s₁ BB hml hv
  obtain ⟨rfl, hsz, hP, hE, hD0⟩ := hv
  have hx := BB.exec
  have hb := BB.bytes
  have hr := BB.returns
  have hts := atoms_spec (ws := wsX1_isAtHomeOf) BB.pre
  have hown : s.vm.findClass RX1 = some m.cls := findClass_of_methodNamed BB.named
  have hlocks := BB.notSynchronized
  subst hsz
  have hD := hD0.self (sz := s.heap.size)
  have hA : ∀ q : Nat, s.heap.size ≤ q → (va_A (Kw cy ko ka κ ζ ++ (Ow no au kd na th we so)) s.heap.size) q := fun q h => Or.inr h
  have hS : va_S (va_A (Kw cy ko ka κ ζ ++ (Ow no au kd na th we so)) s.heap.size) s.heap s.heap [] := va_S.rf
  have hin_RX2 : ∀ w ∈ u_ws RX2 TX2 6, w ∈ wsX1_isAtHomeOf := by decide +kernel
  have hl := lv_entry ([.ref ko, .int (nI pi), .int (nI ni), .ref no]) (n := 4) (Nat.le_of_ble_eq_true rfl)
  rw [lg_entry_eq]
  generalize (lg_sl ([.ref ko, .int (nI pi), .int (nI ni), .ref no]) ++ List.replicate (4 - (lg_sl ([.ref ko, .int (nI pi), .int (nI ni), .ref no])).length) Slot.unset).toArray = ls at hl ⊢
  have hl : lv_has ls 4 [(0, .ref ko), (1, .int (nI pi)), (2, .int (nI ni)), (3, .ref no)] := hl
  refine lv_aload_n hx hb dX1_isAtHomeOf_0 rfl (lv_at hl 0 rfl) ?_
  refine lv_iload_n hx hb dX1_isAtHomeOf_1 rfl (lv_at hl 1 rfl) ?_
  refine lv_iload_n hx hb dX1_isAtHomeOf_2 rfl (lv_at hl 2 rfl) ?_
  refine lv_aload_n hx hb dX1_isAtHomeOf_3 rfl (lv_at hl 3 rfl) ?_
  refine vg_calliW (va_runV (As := [.int (nI pi), .int (nI ni), .ref no]) (rest := []) ⟨hx, hb, hml, hown, hts⟩ (kX1_isSeenBy l D cy s.heap.size ko ka κ ζ no au kd na th we so pi ni (by omega) (by omega)) (cwV 3 hts gX1_isAtHomeOf_X1_isSeenBy rfl rfl rfl (by decide +kernel) ⟨Nat.le_of_ble_eq_true rfl, Nat.le_of_ble_eq_true rfl⟩) (vg_P.preV hE hP 0 rfl rfl hP hD) rfl rfl hl.1 rfl (lv_room (Nat.le_of_ble_eq_true rfl)) dX1_isAtHomeOf_4 ⟨Nat.le_of_ble_eq_true rfl, Nat.le_of_ble_eq_true rfl⟩) hP hD hS hA (fun r _ H locs hr hP hD hS => ?_)
  subst hr
  refine lv_if_ne (tgt := 12) hx hb dX1_isAtHomeOf_7 (by decide) (fun r1 => ?_) (fun r1 => ?_)
  · have c1 : (kSee κ ζ pi ni au kd na) = true := bI_n0.mp r1
    refine lv_aload_n hx hb dX1_isAtHomeOf_12 rfl (lv_at hl 3 rfl) ?_
    refine va_get (D := D) (ci := 3) (v := .int (nI au)) (C := RX2) (T := TX2) (N := 6) hx hb hts hin_RX2 hown hE.1 hP 6 rfl rfl 0 (by decide) (hts (.fieldLink RX1 90 "Villagepost$Note" "author" "I") (by decide +kernel)) (fun _ h9 => h9) rfl dX1_isAtHomeOf_13 ?_
    refine lv_iload_n hx hb dX1_isAtHomeOf_16 rfl (lv_at hl 1 rfl) ?_
    refine lv_icmp_eq (tgt := 52) hx hb dX1_isAtHomeOf_17 (by decide) (fun r2 => ?_) (fun r2 => ?_)
    · have c2 : au = pi := (nI_eq (a := au) (b := pi) (by omega) (by omega)).mp r2
      refine lv_iconst (v := 1) hx hb dX1_isAtHomeOf_52 (by decide) ?_
      refine lv_goto (tgt := 57) hx hb dX1_isAtHomeOf_53 (by decide) ?_
      refine vg_tp (bI (kAth κ ζ pi ni au kd na)) (by simp [kAth, bI, c1, eq_true c2]) ?_
      exact W.zret (v := (bI (kAth κ ζ pi ni au kd na))) (ty := .boolean) hx hb hr (bI_and _) (fun t ht hW => ⟨⟨(bI (kAth κ ζ pi ni au kd na)), (), rfl, rfl, (by rw [ht]; exact hP), hD⟩, hS.F ht⟩) hS.2.2 dX1_isAtHomeOf_57
    · have c2 : ¬ au = pi := fun q => r2 ((nI_eq (a := au) (b := pi) (by omega) (by omega)).mpr q)
      refine lv_aload_n hx hb dX1_isAtHomeOf_20 rfl (lv_at hl 3 rfl) ?_
      refine va_get (D := D) (ci := 3) (v := .int na) (C := RX2) (T := TX2) (N := 6) hx hb hts hin_RX2 hown hE.1 hP 6 rfl rfl 2 (by decide) (hts (.fieldLink RX1 95 "Villagepost$Note" "named" "I") (by decide +kernel)) (fun _ h9 => h9) rfl dX1_isAtHomeOf_21 ?_
      refine lv_iload_n hx hb dX1_isAtHomeOf_24 rfl (lv_at hl 1 rfl) ?_
      refine vg_calliP (va_runSN (As := [.int na, .int (nI pi)]) (rest := []) ⟨hx, hb, hml, hown, hts⟩ (kX4_has l D cy H.size na pi) ⟨va_cnB 2 hts gX1_isAtHomeOf_X4_has_n81 rfl rfl rfl (hE.2 (.methodLinkNest RX1 81 yX4_has "Villagepost") (by decide +kernel)) (hts (.initialized RX4) (by decide +kernel)) (by decide +kernel) ⟨Nat.le_of_ble_eq_true rfl, Nat.le_of_ble_eq_true rfl⟩, hts (.static yX4_has) (by decide +kernel), trivial⟩ (vg_P.preS hE vg_P0 (A := fun _ => True) vg_D0) rfl rfl hl.1 rfl (lv_room (Nat.le_of_ble_eq_true rfl)) dX1_isAtHomeOf_25 ⟨Nat.le_of_ble_eq_true rfl, Nat.le_of_ble_eq_true rfl⟩) hP hD hS hA (fun r _ H locs hr hP hD hS => ?_)
      subst hr
      refine lv_if_ne (tgt := 52) hx hb dX1_isAtHomeOf_28 (by decide) (fun r3 => ?_) (fun r3 => ?_)
      · have c3 : (kHas na pi) = true := bI_n0.mp r3
        refine lv_iconst (v := 1) hx hb dX1_isAtHomeOf_52 (by decide) ?_
        refine lv_goto (tgt := 57) hx hb dX1_isAtHomeOf_53 (by decide) ?_
        refine vg_tp (bI (kAth κ ζ pi ni au kd na)) (by simp [kAth, bI, c1, c2, c3]) ?_
        exact W.zret (v := (bI (kAth κ ζ pi ni au kd na))) (ty := .boolean) hx hb hr (bI_and _) (fun t ht hW => ⟨⟨(bI (kAth κ ζ pi ni au kd na)), (), rfl, rfl, (by rw [ht]; exact hP), hD⟩, hS.F ht⟩) hS.2.2 dX1_isAtHomeOf_57
      · have c3 : (kHas na pi) = false := bI_0.mp r3
        refine lv_aload_n hx hb dX1_isAtHomeOf_31 rfl (lv_at hl 0 rfl) ?_
        refine lv_iload_n hx hb dX1_isAtHomeOf_32 rfl (lv_at hl 1 rfl) ?_
        refine lv_aload_n hx hb dX1_isAtHomeOf_33 rfl (lv_at hl 3 rfl) ?_
        refine va_get (D := D) (ci := 3) (v := .int (nI au)) (C := RX2) (T := TX2) (N := 6) hx hb hts hin_RX2 hown hE.1 hP 6 rfl rfl 0 (by decide) (hts (.fieldLink RX1 90 "Villagepost$Note" "author" "I") (by decide +kernel)) (fun _ h9 => h9) rfl dX1_isAtHomeOf_34 ?_
        refine vg_calli (pre := Kw cy ko ka κ ζ ++ (Ow no au kd na th we so)) (RR := []) (wc := Kw cy ko ka κ ζ) (wr := Ow no au kd na th we so) (va_runV (As := [.int (nI pi), .int (nI au)]) (rest := []) ⟨hx, hb, hml, hown, hts⟩ (kX1_isFollowing l D cy H.size ko ka κ ζ pi au (by omega)) (cwV 2 hts gX1_isAtHomeOf_X1_isFollowing rfl rfl rfl (by decide +kernel) ⟨Nat.le_of_ble_eq_true rfl, Nat.le_of_ble_eq_true rfl⟩) (vg_P.preV hE hP 0 rfl rfl (va_P.sub (ws' := Kw cy ko ka κ ζ) hP [0, 1, 2, 3, 4, 5] rfl) (va_D.sub (ws' := Kw cy ko ka κ ζ) hD [0, 1, 2, 3, 4, 5] (by decide) rfl)) rfl rfl hl.1 rfl (lv_room (Nat.le_of_ble_eq_true rfl)) dX1_isAtHomeOf_37 ⟨Nat.le_of_ble_eq_true rfl, Nat.le_of_ble_eq_true rfl⟩) hP hD hS hA [0, 1, 2, 3, 4, 5] [6] rfl rfl (by decide) (by decide) (fun r _ H locs hr hP hD hS => ?_)
        subst hr
        have hP : va_P D vwCl (Kw cy ko ka κ ζ ++ (Ow no au kd na th we so)) H := hP
        have hD : va_D (va_A (Kw cy ko ka κ ζ ++ (Ow no au kd na th we so)) s.heap.size) (Kw cy ko ka κ ζ ++ (Ow no au kd na th we so)) := hD
        refine lv_if_ne (tgt := 52) hx hb dX1_isAtHomeOf_40 (by decide) (fun r4 => ?_) (fun r4 => ?_)
        · have c4 : (kHas ((κ 1) pi) au) = true := bI_n0.mp r4
          refine lv_iconst (v := 1) hx hb dX1_isAtHomeOf_52 (by decide) ?_
          refine lv_goto (tgt := 57) hx hb dX1_isAtHomeOf_53 (by decide) ?_
          refine vg_tp (bI (kAth κ ζ pi ni au kd na)) (by simp [kAth, bI, c1, c2, c3, c4]) ?_
          exact W.zret (v := (bI (kAth κ ζ pi ni au kd na))) (ty := .boolean) hx hb hr (bI_and _) (fun t ht hW => ⟨⟨(bI (kAth κ ζ pi ni au kd na)), (), rfl, rfl, (by rw [ht]; exact hP), hD⟩, hS.F ht⟩) hS.2.2 dX1_isAtHomeOf_57
        · have c4 : (kHas ((κ 1) pi) au) = false := bI_0.mp r4
          refine lv_aload_n hx hb dX1_isAtHomeOf_43 rfl (lv_at hl 0 rfl) ?_
          refine lv_iload_n hx hb dX1_isAtHomeOf_44 rfl (lv_at hl 1 rfl) ?_
          refine lv_iload_n hx hb dX1_isAtHomeOf_45 rfl (lv_at hl 2 rfl) ?_
          refine vg_calli (pre := Kw cy ko ka κ ζ ++ (Ow no au kd na th we so)) (RR := []) (wc := Kw cy ko ka κ ζ) (wr := Ow no au kd na th we so) (va_runV (As := [.int (nI pi), .int (nI ni)]) (rest := []) ⟨hx, hb, hml, hown, hts⟩ (kX1_isBoostedFor l D cy H.size ko ka κ ζ pi ni (by omega)) (cwV 2 hts gX1_isAtHomeOf_X1_isBoostedFor rfl rfl rfl (by decide +kernel) ⟨Nat.le_of_ble_eq_true rfl, Nat.le_of_ble_eq_true rfl⟩) (vg_P.preV hE hP 0 rfl rfl (va_P.sub (ws' := Kw cy ko ka κ ζ) hP [0, 1, 2, 3, 4, 5] rfl) (va_D.sub (ws' := Kw cy ko ka κ ζ) hD [0, 1, 2, 3, 4, 5] (by decide) rfl)) rfl rfl hl.1 rfl (lv_room (Nat.le_of_ble_eq_true rfl)) dX1_isAtHomeOf_46 ⟨Nat.le_of_ble_eq_true rfl, Nat.le_of_ble_eq_true rfl⟩) hP hD hS hA [0, 1, 2, 3, 4, 5] [6] rfl rfl (by decide) (by decide) (fun r _ H locs hr hP hD hS => ?_)
          subst hr
          have hP : va_P D vwCl (Kw cy ko ka κ ζ ++ (Ow no au kd na th we so)) H := hP
          have hD : va_D (va_A (Kw cy ko ka κ ζ ++ (Ow no au kd na th we so)) s.heap.size) (Kw cy ko ka κ ζ ++ (Ow no au kd na th we so)) := hD
          refine lv_if_eq (tgt := 56) hx hb dX1_isAtHomeOf_49 (by decide) (fun r5 => ?_) (fun r5 => ?_)
          · have c5 : (kBf κ ζ pi ni 10) = false := bI_0.mp r5
            refine lv_iconst (v := 0) hx hb dX1_isAtHomeOf_56 (by decide) ?_
            refine vg_tp (bI (kAth κ ζ pi ni au kd na)) (by simp [kAth, bI, c1, c2, c3, c4, c5]) ?_
            exact W.zret (v := (bI (kAth κ ζ pi ni au kd na))) (ty := .boolean) hx hb hr (bI_and _) (fun t ht hW => ⟨⟨(bI (kAth κ ζ pi ni au kd na)), (), rfl, rfl, (by rw [ht]; exact hP), hD⟩, hS.F ht⟩) hS.2.2 dX1_isAtHomeOf_57
          · have c5 : (kBf κ ζ pi ni 10) = true := bI_n0.mp r5
            refine lv_iconst (v := 1) hx hb dX1_isAtHomeOf_52 (by decide) ?_
            refine lv_goto (tgt := 57) hx hb dX1_isAtHomeOf_53 (by decide) ?_
            refine vg_tp (bI (kAth κ ζ pi ni au kd na)) (by simp [kAth, bI, c1, c2, c3, c4, c5]) ?_
            exact W.zret (v := (bI (kAth κ ζ pi ni au kd na))) (ty := .boolean) hx hb hr (bI_and _) (fun t ht hW => ⟨⟨(bI (kAth κ ζ pi ni au kd na)), (), rfl, rfl, (by rw [ht]; exact hP), hD⟩, hS.F ht⟩) hS.2.2 dX1_isAtHomeOf_57
  · have c1 : (kSee κ ζ pi ni au kd na) = false := bI_0.mp r1
    refine lv_iconst (v := 0) hx hb dX1_isAtHomeOf_10 (by decide) ?_
    refine vg_tp (bI (kAth κ ζ pi ni au kd na)) (by simp [kAth, bI, c1]) ?_
    exact W.zret (v := (bI (kAth κ ζ pi ni au kd na))) (ty := .boolean) hx hb hr (bI_and _) (fun t ht hW => ⟨⟨(bI (kAth κ ζ pi ni au kd na)), (), rfl, rfl, (by rw [ht]; exact hP), hD⟩, hS.F ht⟩) hS.2.2 dX1_isAtHomeOf_11

set_option maxHeartbeats 4000000 in
set_option maxRecDepth 100000 in
theorem kX1_sizeOf0 (l : Launch) (D : va_G) (cy : Nat → ClassId) (sz : Nat) (ko : Nat) (ka : Nat → Nat) (κ : Nat → Nat → Int32) (ζ : Nat → Nat → Int64)  : Met l yX1_sizeOf wsX1_sizeOf ({ frames := 1, cells := 0, slots := 0, locals := 20 }) (vg_P D cy [.ref (ka 0)] sz (Kw cy ko ka κ ζ)) (vg_Qi (S := Unit) D sz (Kw cy ko ka κ ζ) (fun r _ => r = (kSz (κ 0) 10)) (fun _ => Kw cy ko ka κ ζ)) 0 0 (va_A (Kw cy ko ka κ ζ) sz) := by
  refine Met.ofW (cc := cX1_sizeOf) (maxL := 3) (ret := (some .int)) (by decide) rfl ?_
  intro p e s m args below meth c s₁ BB hml hv
  obtain ⟨rfl, hsz, hP, hE, hD0⟩ := hv
  have hx := BB.exec
  have hb := BB.bytes
  have hr := BB.returns
  have hts := atoms_spec (ws := wsX1_sizeOf) BB.pre
  have hown : s.vm.findClass RX1 = some m.cls := findClass_of_methodNamed BB.named
  have hlocks := BB.notSynchronized
  subst hsz
  have hD := hD0.self (sz := s.heap.size)
  have hA : ∀ q : Nat, s.heap.size ≤ q → (va_A (Kw cy ko ka κ ζ) s.heap.size) q := fun q h => Or.inr h
  have hS : va_S (va_A (Kw cy ko ka κ ζ) s.heap.size) s.heap s.heap [] := va_S.rf
  have hl := lv_entry ([.ref (ka 0)]) (n := 3) (Nat.le_of_ble_eq_true rfl)
  rw [lg_entry_eq]
  generalize (lg_sl ([.ref (ka 0)]) ++ List.replicate (3 - (lg_sl ([.ref (ka 0)])).length) Slot.unset).toArray = ls at hl ⊢
  have hl : lv_has ls 3 [(0, .ref (ka 0))] := hl
  have L4 : ∀ (fuel : Nat) (o0 : Nat), 10 - o0 < fuel → (o0 ≤ 10) → ∀ (H : Heap) (locs : List Loc), va_P D vwCl (Kw cy ko ka κ ζ) H → va_D (va_A (Kw cy ko ka κ ζ) s.heap.size) (Kw cy ko ka κ ζ) → va_S (va_A (Kw cy ko ka κ ζ) s.heap.size) s.heap H locs → ∀ ls : Array Slot, lv_has ls 3 [(0, .ref (ka 0)), (1, .int (kSz (κ 0) o0)), (2, .int (nI o0))] → W p l e (headSpec wsX1_sizeOf ({ frames := 1, cells := 0, slots := 0, locals := 20 })).room s m ([.ref (ka 0)] : List Value).toArray below meth c H locs 0 0 (MQ below (vg_Qi (S := Unit) D s.heap.size (Kw cy ko ka κ ζ) (fun r _ => r = (kSz (κ 0) 10)) (fun _ => Kw cy ko ka κ ζ)) ([.ref (ka 0)] : List Value).toArray s 0 0 (va_A (Kw cy ko ka κ ζ) s.heap.size)) (F0 m 4 ls []) := by
    intro fuel
    induction fuel with
    | zero => intros; omega
    | succ fuel ih =>
      intro o0 hfuel hi H locs hP hD hS ls hl
      refine lv_iload_n hx hb dX1_sizeOf_4 rfl (lv_at hl 2 rfl) ?_
      refine lv_aload_n hx hb dX1_sizeOf_5 rfl (lv_at hl 0 rfl) ?_
      refine va_alen hx hb hE.1 hP 1 0 rfl rfl (v := 10) rfl dX1_sizeOf_6 ?_
      refine lv_icmp_ge (tgt := 25) hx hb dX1_sizeOf_7 (by decide) (fun r1 => ?_) (fun r1 => ?_)
      · have c1 : 10 ≤ o0 := (nI_leI (a := 10) (b := o0) (by omega) (by omega)).mp r1
        have e4 : o0 = 10 := by omega
        refine lv_iload_n hx hb dX1_sizeOf_25 rfl (lv_at hl 1 rfl) ?_
        refine vg_tp (kSz (κ 0) 10) (by rw [e4]) ?_
        exact W.iret (v := (kSz (κ 0) 10)) hx hb hr (fun t ht hW => ⟨⟨(kSz (κ 0) 10), (), rfl, rfl, (by rw [ht]; exact hP), hD⟩, hS.F ht⟩) hS.2.2 dX1_sizeOf_26
      · have c1 : o0 < 10 := Nat.lt_of_not_le (fun q => r1 ((nI_leI (a := 10) (b := o0) (by omega) (by omega)).mpr q))
        refine lv_iload_n hx hb dX1_sizeOf_10 rfl (lv_at hl 1 rfl) ?_
        refine lv_aload_n hx hb dX1_sizeOf_11 rfl (lv_at hl 0 rfl) ?_
        refine lv_iload_n hx hb dX1_sizeOf_12 rfl (lv_at hl 2 rfl) ?_
        refine vg_iald hx hb hE.1 hP 1 0 rfl rfl (f := κ 0) (j := o0) (by omega) (by decide) dX1_sizeOf_13 ?_
        refine vg_calliP (va_runS (As := [.int ((κ 0) o0)]) (rest := [.int (kSz (κ 0) o0)]) ⟨hx, hb, hml, hown, hts⟩ (kJ6_bitCount_0f7a4 l D cy H.size (((κ 0) o0))) (va_cwS 1 hts gX1_sizeOf_J6_bitCount_0f7a4 rfl rfl rfl (by decide +kernel) ⟨Nat.le_of_ble_eq_true rfl, Nat.le_of_ble_eq_true rfl⟩) (vg_P.preS hE vg_P0 (A := fun _ => True) vg_D0) rfl rfl hl.1 rfl (lv_room (Nat.le_of_ble_eq_true rfl)) dX1_sizeOf_14 ⟨Nat.le_of_ble_eq_true rfl, Nat.le_of_ble_eq_true rfl⟩) hP hD hS hA (fun r _ H locs hr hP hD hS => ?_)
        subst hr
        refine lv_iadd hx hb dX1_sizeOf_17 ?_
        refine lv_istore_n (lv' := [(1, .int ((kSz (κ 0) o0) + (jIbc (((κ 0) o0))))), (0, .ref (ka 0)), (2, .int (nI o0))]) hx hb dX1_sizeOf_18 rfl hl (by decide) rfl (fun ls hl => ?_)
        have hl : lv_has ls 3 [(0, .ref (ka 0)), (1, .int ((kSz (κ 0) o0) + (jIbc (((κ 0) o0))))), (2, .int (nI o0))] := lv_sub hl [1, 0, 2] rfl
        refine lv_iinc (v := (nI (o0 + 1))) (lv' := [(2, .int (nI (o0 + 1))), (0, .ref (ka 0)), (1, .int ((kSz (κ 0) o0) + (jIbc (((κ 0) o0)))))]) hx hb dX1_sizeOf_19 hl (k := 2) rfl (by first | rfl | exact nI_add _ _ | decide) (by decide) rfl (fun ls hl => ?_)
        have hl : lv_has ls 3 [(0, .ref (ka 0)), (1, .int ((kSz (κ 0) o0) + (jIbc (((κ 0) o0))))), (2, .int (nI (o0 + 1)))] := lv_sub hl [1, 2, 0] rfl
        refine lv_goto (tgt := 4) hx hb dX1_sizeOf_22 (by decide) ?_
        have q2 : ((kSz (κ 0) (o0 + 1)) : Int32) = ((kSz (κ 0) o0) + (jIbc (((κ 0) o0)))) := by rfl
        exact ih (o0 + 1) (by omega) (by omega) _ _ hP hD hS ls (by rw [q2]; exact lv_sub hl [0, 1, 2] rfl)
  refine lv_iconst (v := 0) hx hb dX1_sizeOf_0 (by decide) ?_
  refine lv_istore_n (lv' := [(1, .int 0), (0, .ref (ka 0))]) hx hb dX1_sizeOf_1 rfl hl (by decide) rfl (fun ls hl => ?_)
  have hl : lv_has ls 3 [(0, .ref (ka 0)), (1, .int 0)] := lv_sub hl [1, 0] rfl
  refine lv_iconst (v := 0) hx hb dX1_sizeOf_2 (by decide) ?_
  refine lv_istore_n (lv' := [(2, .int 0), (0, .ref (ka 0)), (1, .int 0)]) hx hb dX1_sizeOf_3 rfl hl (by decide) rfl (fun ls hl => ?_)
  have hl : lv_has ls 3 [(0, .ref (ka 0)), (1, .int 0), (2, .int 0)] := lv_sub hl [1, 2, 0] rfl
  have q3 : ((kSz (κ 0) 0) : Int32) = 0 := by first | rfl | simp []
  have q4 : ((nI 0) : Int32) = 0 := by first | rfl | simp []
  exact L4 ((10 - 0) + 1) 0 (by omega) (by omega) _ _ hP hD hS ls (by rw [q3, q4]; exact lv_sub hl [0, 1, 2] rfl)

set_option maxHeartbeats 4000000 in
set_option maxRecDepth 100000 in
theorem kX1_sizeOf1 (l : Launch) (D : va_G) (cy : Nat → ClassId) (sz : Nat) (ko : Nat) (ka : Nat → Nat) (κ : Nat → Nat → Int32) (ζ : Nat → Nat → Int64)  : Met l yX1_sizeOf wsX1_sizeOf ({ frames := 1, cells := 0, slots := 0, locals := 20 }) (vg_P D cy [.ref (ka 1)] sz (Kw cy ko ka κ ζ)) (vg_Qi (S := Unit) D sz (Kw cy ko ka κ ζ) (fun r _ => r = (kSz (κ 1) 10)) (fun _ => Kw cy ko ka κ ζ)) 0 0 (va_A (Kw cy ko ka κ ζ) sz) := by
  refine Met.ofW (cc := cX1_sizeOf) (maxL := 3) (ret := (some .int)) (by decide) rfl ?_
  intro p e s m args below meth c s₁ BB hml hv
  obtain ⟨rfl, hsz, hP, hE, hD0⟩ := hv
  have hx := BB.exec
  have hb := BB.bytes
  have hr := BB.returns
  have hts := atoms_spec (ws := wsX1_sizeOf) BB.pre
  have hown : s.vm.findClass RX1 = some m.cls := findClass_of_methodNamed BB.named
  have hlocks := BB.notSynchronized
  subst hsz
  have hD := hD0.self (sz := s.heap.size)
  have hA : ∀ q : Nat, s.heap.size ≤ q → (va_A (Kw cy ko ka κ ζ) s.heap.size) q := fun q h => Or.inr h
  have hS : va_S (va_A (Kw cy ko ka κ ζ) s.heap.size) s.heap s.heap [] := va_S.rf
  have hl := lv_entry ([.ref (ka 1)]) (n := 3) (Nat.le_of_ble_eq_true rfl)
  rw [lg_entry_eq]
  generalize (lg_sl ([.ref (ka 1)]) ++ List.replicate (3 - (lg_sl ([.ref (ka 1)])).length) Slot.unset).toArray = ls at hl ⊢
  have hl : lv_has ls 3 [(0, .ref (ka 1))] := hl
  have L4 : ∀ (fuel : Nat) (o0 : Nat), 10 - o0 < fuel → (o0 ≤ 10) → ∀ (H : Heap) (locs : List Loc), va_P D vwCl (Kw cy ko ka κ ζ) H → va_D (va_A (Kw cy ko ka κ ζ) s.heap.size) (Kw cy ko ka κ ζ) → va_S (va_A (Kw cy ko ka κ ζ) s.heap.size) s.heap H locs → ∀ ls : Array Slot, lv_has ls 3 [(0, .ref (ka 1)), (1, .int (kSz (κ 1) o0)), (2, .int (nI o0))] → W p l e (headSpec wsX1_sizeOf ({ frames := 1, cells := 0, slots := 0, locals := 20 })).room s m ([.ref (ka 1)] : List Value).toArray below meth c H locs 0 0 (MQ below (vg_Qi (S := Unit) D s.heap.size (Kw cy ko ka κ ζ) (fun r _ => r = (kSz (κ 1) 10)) (fun _ => Kw cy ko ka κ ζ)) ([.ref (ka 1)] : List Value).toArray s 0 0 (va_A (Kw cy ko ka κ ζ) s.heap.size)) (F0 m 4 ls []) := by
    intro fuel
    induction fuel with
    | zero => intros; omega
    | succ fuel ih =>
      intro o0 hfuel hi H locs hP hD hS ls hl
      refine lv_iload_n hx hb dX1_sizeOf_4 rfl (lv_at hl 2 rfl) ?_
      refine lv_aload_n hx hb dX1_sizeOf_5 rfl (lv_at hl 0 rfl) ?_
      refine va_alen hx hb hE.1 hP 2 0 rfl rfl (v := 10) rfl dX1_sizeOf_6 ?_
      refine lv_icmp_ge (tgt := 25) hx hb dX1_sizeOf_7 (by decide) (fun r1 => ?_) (fun r1 => ?_)
      · have c1 : 10 ≤ o0 := (nI_leI (a := 10) (b := o0) (by omega) (by omega)).mp r1
        have e4 : o0 = 10 := by omega
        refine lv_iload_n hx hb dX1_sizeOf_25 rfl (lv_at hl 1 rfl) ?_
        refine vg_tp (kSz (κ 1) 10) (by rw [e4]) ?_
        exact W.iret (v := (kSz (κ 1) 10)) hx hb hr (fun t ht hW => ⟨⟨(kSz (κ 1) 10), (), rfl, rfl, (by rw [ht]; exact hP), hD⟩, hS.F ht⟩) hS.2.2 dX1_sizeOf_26
      · have c1 : o0 < 10 := Nat.lt_of_not_le (fun q => r1 ((nI_leI (a := 10) (b := o0) (by omega) (by omega)).mpr q))
        refine lv_iload_n hx hb dX1_sizeOf_10 rfl (lv_at hl 1 rfl) ?_
        refine lv_aload_n hx hb dX1_sizeOf_11 rfl (lv_at hl 0 rfl) ?_
        refine lv_iload_n hx hb dX1_sizeOf_12 rfl (lv_at hl 2 rfl) ?_
        refine vg_iald hx hb hE.1 hP 2 0 rfl rfl (f := κ 1) (j := o0) (by omega) (by decide) dX1_sizeOf_13 ?_
        refine vg_calliP (va_runS (As := [.int ((κ 1) o0)]) (rest := [.int (kSz (κ 1) o0)]) ⟨hx, hb, hml, hown, hts⟩ (kJ6_bitCount_0f7a4 l D cy H.size (((κ 1) o0))) (va_cwS 1 hts gX1_sizeOf_J6_bitCount_0f7a4 rfl rfl rfl (by decide +kernel) ⟨Nat.le_of_ble_eq_true rfl, Nat.le_of_ble_eq_true rfl⟩) (vg_P.preS hE vg_P0 (A := fun _ => True) vg_D0) rfl rfl hl.1 rfl (lv_room (Nat.le_of_ble_eq_true rfl)) dX1_sizeOf_14 ⟨Nat.le_of_ble_eq_true rfl, Nat.le_of_ble_eq_true rfl⟩) hP hD hS hA (fun r _ H locs hr hP hD hS => ?_)
        subst hr
        refine lv_iadd hx hb dX1_sizeOf_17 ?_
        refine lv_istore_n (lv' := [(1, .int ((kSz (κ 1) o0) + (jIbc (((κ 1) o0))))), (0, .ref (ka 1)), (2, .int (nI o0))]) hx hb dX1_sizeOf_18 rfl hl (by decide) rfl (fun ls hl => ?_)
        have hl : lv_has ls 3 [(0, .ref (ka 1)), (1, .int ((kSz (κ 1) o0) + (jIbc (((κ 1) o0))))), (2, .int (nI o0))] := lv_sub hl [1, 0, 2] rfl
        refine lv_iinc (v := (nI (o0 + 1))) (lv' := [(2, .int (nI (o0 + 1))), (0, .ref (ka 1)), (1, .int ((kSz (κ 1) o0) + (jIbc (((κ 1) o0)))))]) hx hb dX1_sizeOf_19 hl (k := 2) rfl (by first | rfl | exact nI_add _ _ | decide) (by decide) rfl (fun ls hl => ?_)
        have hl : lv_has ls 3 [(0, .ref (ka 1)), (1, .int ((kSz (κ 1) o0) + (jIbc (((κ 1) o0))))), (2, .int (nI (o0 + 1)))] := lv_sub hl [1, 2, 0] rfl
        refine lv_goto (tgt := 4) hx hb dX1_sizeOf_22 (by decide) ?_
        have q2 : ((kSz (κ 1) (o0 + 1)) : Int32) = ((kSz (κ 1) o0) + (jIbc (((κ 1) o0)))) := by rfl
        exact ih (o0 + 1) (by omega) (by omega) _ _ hP hD hS ls (by rw [q2]; exact lv_sub hl [0, 1, 2] rfl)
  refine lv_iconst (v := 0) hx hb dX1_sizeOf_0 (by decide) ?_
  refine lv_istore_n (lv' := [(1, .int 0), (0, .ref (ka 1))]) hx hb dX1_sizeOf_1 rfl hl (by decide) rfl (fun ls hl => ?_)
  have hl : lv_has ls 3 [(0, .ref (ka 1)), (1, .int 0)] := lv_sub hl [1, 0] rfl
  refine lv_iconst (v := 0) hx hb dX1_sizeOf_2 (by decide) ?_
  refine lv_istore_n (lv' := [(2, .int 0), (0, .ref (ka 1)), (1, .int 0)]) hx hb dX1_sizeOf_3 rfl hl (by decide) rfl (fun ls hl => ?_)
  have hl : lv_has ls 3 [(0, .ref (ka 1)), (1, .int 0), (2, .int 0)] := lv_sub hl [1, 2, 0] rfl
  have q3 : ((kSz (κ 1) 0) : Int32) = 0 := by first | rfl | simp []
  have q4 : ((nI 0) : Int32) = 0 := by first | rfl | simp []
  exact L4 ((10 - 0) + 1) 0 (by omega) (by omega) _ _ hP hD hS ls (by rw [q3, q4]; exact lv_sub hl [0, 1, 2] rfl)

set_option maxHeartbeats 4000000 in
set_option maxRecDepth 100000 in
theorem kX1_countKnown (l : Launch) (D : va_G) (cy : Nat → ClassId) (sz : Nat) (ko : Nat) (ka : Nat → Nat) (κ : Nat → Nat → Int32) (ζ : Nat → Nat → Int64)  : Met l yX1_countKnown wsX1_countKnown ({ frames := 1, cells := 0, slots := 0, locals := 21 }) (vg_P D cy [.ref ko] sz (Kw cy ko ka κ ζ)) (vg_Qi (S := Unit) D sz (Kw cy ko ka κ ζ) (fun r _ => r = (jLbc (kLive ζ))) (fun _ => Kw cy ko ka κ ζ)) 0 0 (va_A (Kw cy ko ka κ ζ) sz) := by
  refine Met.ofW (cc := cX1_countKnown) (maxL := 1) (ret := (some .int)) (by decide) rfl ?_
  intro p e s m args below meth c s₁ BB hml hv
  obtain ⟨rfl, hsz, hP, hE, hD0⟩ := hv
  have hx := BB.exec
  have hb := BB.bytes
  have hr := BB.returns
  have hts := atoms_spec (ws := wsX1_countKnown) BB.pre
  have hown : s.vm.findClass RX1 = some m.cls := findClass_of_methodNamed BB.named
  have hlocks := BB.notSynchronized
  subst hsz
  have hD := hD0.self (sz := s.heap.size)
  have hA : ∀ q : Nat, s.heap.size ≤ q → (va_A (Kw cy ko ka κ ζ) s.heap.size) q := fun q h => Or.inr h
  have hS : va_S (va_A (Kw cy ko ka κ ζ) s.heap.size) s.heap s.heap [] := va_S.rf
  have hin_RX1 : ∀ w ∈ u_ws RX1 TX1 7, w ∈ wsX1_countKnown := by decide +kernel
  have hl := lv_entry ([.ref ko]) (n := 1) (Nat.le_of_ble_eq_true rfl)
  rw [lg_entry_eq]
  generalize (lg_sl ([.ref ko]) ++ List.replicate (1 - (lg_sl ([.ref ko])).length) Slot.unset).toArray = ls at hl ⊢
  have hl : lv_has ls 1 [(0, .ref ko)] := hl
  refine lv_aload_n hx hb dX1_countKnown_0 rfl (lv_at hl 0 rfl) ?_
  refine va_get (D := D) (ci := 2) (v := .long ((ζ 1) 0)) (C := RX1) (T := TX1) (N := 7) hx hb hts hin_RX1 hown hE.1 hP 0 rfl rfl 5 (by decide) (hts (.fieldLink RX1 28 "Villagepost$Knowledge" "arrived" "J") (by decide +kernel)) (fun _ h9 => h9) rfl dX1_countKnown_1 ?_
  refine lv_aload_n hx hb dX1_countKnown_4 rfl (lv_at hl 0 rfl) ?_
  refine va_get (D := D) (ci := 2) (v := .long ((ζ 2) 0)) (C := RX1) (T := TX1) (N := 7) hx hb hts hin_RX1 hown hE.1 hP 0 rfl rfl 6 (by decide) (hts (.fieldLink RX1 32 "Villagepost$Knowledge" "marked" "J") (by decide +kernel)) (fun _ h9 => h9) rfl dX1_countKnown_5 ?_
  refine lv_ldc2 (own := RX1) (index := 88) (v := (-1)) hx hb hown (hts (.constantLong RX1 88 (-1)) (by decide +kernel)) dX1_countKnown_8 ?_
  refine lv_lxor hx hb dX1_countKnown_11 ?_
  refine lv_land hx hb dX1_countKnown_12 ?_
  refine vg_tpl (kLive ζ) (rfl) ?_
  refine vg_calliP (va_runS (As := [.long (kLive ζ)]) (rest := []) ⟨hx, hb, hml, hown, hts⟩ (kJ13_bitCount_95d88 l D cy s.heap.size (kLive ζ)) (va_cwS 1 hts gX1_countKnown_J13_bitCount_95d88 rfl rfl rfl (by decide +kernel) ⟨Nat.le_of_ble_eq_true rfl, Nat.le_of_ble_eq_true rfl⟩) (vg_P.preS hE vg_P0 (A := fun _ => True) vg_D0) rfl rfl hl.1 rfl (lv_room (Nat.le_of_ble_eq_true rfl)) dX1_countKnown_13 ⟨Nat.le_of_ble_eq_true rfl, Nat.le_of_ble_eq_true rfl⟩) hP hD hS hA (fun r _ H locs hr hP hD hS => ?_)
  subst hr
  refine vg_tp (jLbc (kLive ζ)) (rfl) ?_
  exact W.iret (v := (jLbc (kLive ζ))) hx hb hr (fun t ht hW => ⟨⟨(jLbc (kLive ζ)), (), rfl, rfl, (by rw [ht]; exact hP), hD⟩, hS.F ht⟩) hS.2.2 dX1_countKnown_16

set_option maxHeartbeats 4000000 in
set_option maxRecDepth 100000 in
theorem kX1_countMarked (l : Launch) (D : va_G) (cy : Nat → ClassId) (sz : Nat) (ko : Nat) (ka : Nat → Nat) (κ : Nat → Nat → Int32) (ζ : Nat → Nat → Int64)  : Met l yX1_countMarked wsX1_countMarked ({ frames := 1, cells := 0, slots := 0, locals := 21 }) (vg_P D cy [.ref ko] sz (Kw cy ko ka κ ζ)) (vg_Qi (S := Unit) D sz (Kw cy ko ka κ ζ) (fun r _ => r = (jLbc (ζ 2 0))) (fun _ => Kw cy ko ka κ ζ)) 0 0 (va_A (Kw cy ko ka κ ζ) sz) := by
  refine Met.ofW (cc := cX1_countMarked) (maxL := 1) (ret := (some .int)) (by decide) rfl ?_
  intro p e s m args below meth c s₁ BB hml hv
  obtain ⟨rfl, hsz, hP, hE, hD0⟩ := hv
  have hx := BB.exec
  have hb := BB.bytes
  have hr := BB.returns
  have hts := atoms_spec (ws := wsX1_countMarked) BB.pre
  have hown : s.vm.findClass RX1 = some m.cls := findClass_of_methodNamed BB.named
  have hlocks := BB.notSynchronized
  subst hsz
  have hD := hD0.self (sz := s.heap.size)
  have hA : ∀ q : Nat, s.heap.size ≤ q → (va_A (Kw cy ko ka κ ζ) s.heap.size) q := fun q h => Or.inr h
  have hS : va_S (va_A (Kw cy ko ka κ ζ) s.heap.size) s.heap s.heap [] := va_S.rf
  have hin_RX1 : ∀ w ∈ u_ws RX1 TX1 7, w ∈ wsX1_countMarked := by decide +kernel
  have hl := lv_entry ([.ref ko]) (n := 1) (Nat.le_of_ble_eq_true rfl)
  rw [lg_entry_eq]
  generalize (lg_sl ([.ref ko]) ++ List.replicate (1 - (lg_sl ([.ref ko])).length) Slot.unset).toArray = ls at hl ⊢
  have hl : lv_has ls 1 [(0, .ref ko)] := hl
  refine lv_aload_n hx hb dX1_countMarked_0 rfl (lv_at hl 0 rfl) ?_
  refine va_get (D := D) (ci := 2) (v := .long ((ζ 2) 0)) (C := RX1) (T := TX1) (N := 7) hx hb hts hin_RX1 hown hE.1 hP 0 rfl rfl 6 (by decide) (hts (.fieldLink RX1 32 "Villagepost$Knowledge" "marked" "J") (by decide +kernel)) (fun _ h9 => h9) rfl dX1_countMarked_1 ?_
  refine vg_calliP (va_runS (As := [.long ((ζ 2) 0)]) (rest := []) ⟨hx, hb, hml, hown, hts⟩ (kJ13_bitCount_95d88 l D cy s.heap.size ((ζ 2) 0)) (va_cwS 1 hts gX1_countMarked_J13_bitCount_95d88 rfl rfl rfl (by decide +kernel) ⟨Nat.le_of_ble_eq_true rfl, Nat.le_of_ble_eq_true rfl⟩) (vg_P.preS hE vg_P0 (A := fun _ => True) vg_D0) rfl rfl hl.1 rfl (lv_room (Nat.le_of_ble_eq_true rfl)) dX1_countMarked_4 ⟨Nat.le_of_ble_eq_true rfl, Nat.le_of_ble_eq_true rfl⟩) hP hD hS hA (fun r _ H locs hr hP hD hS => ?_)
  subst hr
  refine vg_tp (jLbc (ζ 2 0)) (by first | rfl | simp []) ?_
  exact W.iret (v := (jLbc (ζ 2 0))) hx hb hr (fun t ht hW => ⟨⟨(jLbc (ζ 2 0)), (), rfl, rfl, (by rw [ht]; exact hP), hD⟩, hS.F ht⟩) hS.2.2 dX1_countMarked_7

set_option maxHeartbeats 4000000 in
set_option maxRecDepth 100000 in
theorem kX1_countFollows (l : Launch) (D : va_G) (cy : Nat → ClassId) (sz : Nat) (ko : Nat) (ka : Nat → Nat) (κ : Nat → Nat → Int32) (ζ : Nat → Nat → Int64)  : Met l yX1_countFollows wsX1_countFollows ({ frames := 2, cells := 0, slots := 0, locals := 42 }) (vg_P D cy [.ref ko] sz (Kw cy ko ka κ ζ)) (vg_Qi (S := Unit) D sz (Kw cy ko ka κ ζ) (fun r _ => r = (kSz (κ 1) 10)) (fun _ => Kw cy ko ka κ ζ)) 0 0 (va_A (Kw cy ko ka κ ζ) sz) := by
  refine Met.ofW (cc := cX1_countFollows) (maxL := 1) (ret := (some .int)) (by decide) rfl ?_
  intro p e s m args below meth c s₁ BB hml hv
  obtain ⟨rfl, hsz, hP, hE, hD0⟩ := hv
  have hx := BB.exec
  have hb := BB.bytes
  have hr := BB.returns
  have hts := atoms_spec (ws := wsX1_countFollows) BB.pre
  have hown : s.vm.findClass RX1 = some m.cls := findClass_of_methodNamed BB.named
  have hlocks := BB.notSynchronized
  subst hsz
  have hD := hD0.self (sz := s.heap.size)
  have hA : ∀ q : Nat, s.heap.size ≤ q → (va_A (Kw cy ko ka κ ζ) s.heap.size) q := fun q h => Or.inr h
  have hS : va_S (va_A (Kw cy ko ka κ ζ) s.heap.size) s.heap s.heap [] := va_S.rf
  have hin_RX1 : ∀ w ∈ u_ws RX1 TX1 7, w ∈ wsX1_countFollows := by decide +kernel
  have hl := lv_entry ([.ref ko]) (n := 1) (Nat.le_of_ble_eq_true rfl)
  rw [lg_entry_eq]
  generalize (lg_sl ([.ref ko]) ++ List.replicate (1 - (lg_sl ([.ref ko])).length) Slot.unset).toArray = ls at hl ⊢
  have hl : lv_has ls 1 [(0, .ref ko)] := hl
  refine lv_aload_n hx hb dX1_countFollows_0 rfl (lv_at hl 0 rfl) ?_
  refine va_get (D := D) (ci := 2) (v := .ref (ka 1)) (C := RX1) (T := TX1) (N := 7) hx hb hts hin_RX1 hown hE.1 hP 0 rfl rfl 1 (by decide) (hts (.fieldLink RX1 15 "Villagepost$Knowledge" "follows" "[I") (by decide +kernel)) (fun _ h9 => h9) rfl dX1_countFollows_1 ?_
  refine vg_calliW (va_runS (As := [.ref (ka 1)]) (rest := []) ⟨hx, hb, hml, hown, hts⟩ (kX1_sizeOf1 l D cy s.heap.size ko ka κ ζ) (va_cwS 1 hts gX1_countFollows_X1_sizeOf rfl rfl rfl (by decide +kernel) ⟨Nat.le_of_ble_eq_true rfl, Nat.le_of_ble_eq_true rfl⟩) (vg_P.preS hE hP hD) rfl rfl hl.1 rfl (lv_room (Nat.le_of_ble_eq_true rfl)) dX1_countFollows_4 ⟨Nat.le_of_ble_eq_true rfl, Nat.le_of_ble_eq_true rfl⟩) hP hD hS hA (fun r _ H locs hr hP hD hS => ?_)
  subst hr
  refine vg_tp (kSz (κ 1) 10) (rfl) ?_
  exact W.iret (v := (kSz (κ 1) 10)) hx hb hr (fun t ht hW => ⟨⟨(kSz (κ 1) 10), (), rfl, rfl, (by rw [ht]; exact hP), hD⟩, hS.F ht⟩) hS.2.2 dX1_countFollows_7

set_option maxHeartbeats 4000000 in
set_option maxRecDepth 100000 in
theorem kX1_countAsks (l : Launch) (D : va_G) (cy : Nat → ClassId) (sz : Nat) (ko : Nat) (ka : Nat → Nat) (κ : Nat → Nat → Int32) (ζ : Nat → Nat → Int64)  : Met l yX1_countAsks wsX1_countAsks ({ frames := 2, cells := 0, slots := 0, locals := 42 }) (vg_P D cy [.ref ko] sz (Kw cy ko ka κ ζ)) (vg_Qi (S := Unit) D sz (Kw cy ko ka κ ζ) (fun r _ => r = (kSz (κ 0) 10)) (fun _ => Kw cy ko ka κ ζ)) 0 0 (va_A (Kw cy ko ka κ ζ) sz) := by
  refine Met.ofW (cc := cX1_countAsks) (maxL := 1) (ret := (some .int)) (by decide) rfl ?_
  intro p e s m args below meth c s₁ BB hml hv
  obtain ⟨rfl, hsz, hP, hE, hD0⟩ := hv
  have hx := BB.exec
  have hb := BB.bytes
  have hr := BB.returns
  have hts := atoms_spec (ws := wsX1_countAsks) BB.pre
  have hown : s.vm.findClass RX1 = some m.cls := findClass_of_methodNamed BB.named
  have hlocks := BB.notSynchronized
  subst hsz
  have hD := hD0.self (sz := s.heap.size)
  have hA : ∀ q : Nat, s.heap.size ≤ q → (va_A (Kw cy ko ka κ ζ) s.heap.size) q := fun q h => Or.inr h
  have hS : va_S (va_A (Kw cy ko ka κ ζ) s.heap.size) s.heap s.heap [] := va_S.rf
  have hin_RX1 : ∀ w ∈ u_ws RX1 TX1 7, w ∈ wsX1_countAsks := by decide +kernel
  have hl := lv_entry ([.ref ko]) (n := 1) (Nat.le_of_ble_eq_true rfl)
  rw [lg_entry_eq]
  generalize (lg_sl ([.ref ko]) ++ List.replicate (1 - (lg_sl ([.ref ko])).length) Slot.unset).toArray = ls at hl ⊢
  have hl : lv_has ls 1 [(0, .ref ko)] := hl
  refine lv_aload_n hx hb dX1_countAsks_0 rfl (lv_at hl 0 rfl) ?_
  refine va_get (D := D) (ci := 2) (v := .ref (ka 0)) (C := RX1) (T := TX1) (N := 7) hx hb hts hin_RX1 hown hE.1 hP 0 rfl rfl 0 (by decide) (hts (.fieldLink RX1 9 "Villagepost$Knowledge" "asks" "[I") (by decide +kernel)) (fun _ h9 => h9) rfl dX1_countAsks_1 ?_
  refine vg_calliW (va_runS (As := [.ref (ka 0)]) (rest := []) ⟨hx, hb, hml, hown, hts⟩ (kX1_sizeOf0 l D cy s.heap.size ko ka κ ζ) (va_cwS 1 hts gX1_countAsks_X1_sizeOf rfl rfl rfl (by decide +kernel) ⟨Nat.le_of_ble_eq_true rfl, Nat.le_of_ble_eq_true rfl⟩) (vg_P.preS hE hP hD) rfl rfl hl.1 rfl (lv_room (Nat.le_of_ble_eq_true rfl)) dX1_countAsks_4 ⟨Nat.le_of_ble_eq_true rfl, Nat.le_of_ble_eq_true rfl⟩) hP hD hS hA (fun r _ H locs hr hP hD hS => ?_)
  subst hr
  refine vg_tp (kSz (κ 0) 10) (rfl) ?_
  exact W.iret (v := (kSz (κ 0) 10)) hx hb hr (fun t ht hW => ⟨⟨(kSz (κ 0) 10), (), rfl, rfl, (by rw [ht]; exact hP), hD⟩, hS.F ht⟩) hS.2.2 dX1_countAsks_7

set_option maxHeartbeats 4000000 in
set_option maxRecDepth 100000 in
theorem kX1_startFollowing (l : Launch) (D : va_G) (cy : Nat → ClassId) (sz : Nat) (ko : Nat) (ka : Nat → Nat) (κ : Nat → Nat → Int32) (ζ : Nat → Nat → Int64) (pi : Nat) (qi : Nat) (hp : pi < 10) : Met l yX1_startFollowing wsX1_startFollowing ({ frames := 1, cells := 0, slots := 0, locals := 20 }) (vg_P D cy [.ref ko, .int (nI pi), .int (nI qi)] sz (Kw cy ko ka κ ζ)) (vg_Qv (S := Unit) D sz (Kw cy ko ka κ ζ) (fun _ => True) (fun _ => Kw cy ko ka (kSt κ pi qi) ζ)) 0 0 (va_A (Kw cy ko ka κ ζ) sz) := by
  refine Met.ofW (cc := cX1_startFollowing) (maxL := 3) (ret := none) (by decide) rfl ?_
  intro p e s m args below meth c s₁ BB hml hv
  obtain ⟨rfl, hsz, hP, hE, hD0⟩ := hv
  have hx := BB.exec
  have hb := BB.bytes
  have hr := BB.returns
  have hts := atoms_spec (ws := wsX1_startFollowing) BB.pre
  have hown : s.vm.findClass RX1 = some m.cls := findClass_of_methodNamed BB.named
  have hlocks := BB.notSynchronized
  subst hsz
  have hD := hD0.self (sz := s.heap.size)
  have hA : ∀ q : Nat, s.heap.size ≤ q → (va_A (Kw cy ko ka κ ζ) s.heap.size) q := fun q h => Or.inr h
  have hS : va_S (va_A (Kw cy ko ka κ ζ) s.heap.size) s.heap s.heap [] := va_S.rf
  have hin_RX1 : ∀ w ∈ u_ws RX1 TX1 7, w ∈ wsX1_startFollowing := by decide +kernel
  have hl := lv_entry ([.ref ko, .int (nI pi), .int (nI qi)]) (n := 3) (Nat.le_of_ble_eq_true rfl)
  rw [lg_entry_eq]
  generalize (lg_sl ([.ref ko, .int (nI pi), .int (nI qi)]) ++ List.replicate (3 - (lg_sl ([.ref ko, .int (nI pi), .int (nI qi)])).length) Slot.unset).toArray = ls at hl ⊢
  have hl : lv_has ls 3 [(0, .ref ko), (1, .int (nI pi)), (2, .int (nI qi))] := hl
  refine lv_aload_n hx hb dX1_startFollowing_0 rfl (lv_at hl 0 rfl) ?_
  refine va_get (D := D) (ci := 2) (v := .ref (ka 0)) (C := RX1) (T := TX1) (N := 7) hx hb hts hin_RX1 hown hE.1 hP 0 rfl rfl 0 (by decide) (hts (.fieldLink RX1 9 "Villagepost$Knowledge" "asks" "[I") (by decide +kernel)) (fun _ h9 => h9) rfl dX1_startFollowing_1 ?_
  refine lv_iload_n hx hb dX1_startFollowing_4 rfl (lv_at hl 1 rfl) ?_
  refine lv_dup2_11 hx hb dX1_startFollowing_5 rfl rfl ?_
  refine vg_iald hx hb hE.1 hP 1 0 rfl rfl (f := κ 0) (j := pi) (by omega) (by decide) dX1_startFollowing_6 ?_
  refine lv_iload_n hx hb dX1_startFollowing_7 rfl (lv_at hl 2 rfl) ?_
  refine vg_calliP (va_runSN (As := [.int (nI qi)]) (rest := [.int ((κ 0) pi), .int (nI pi), .ref (ka 0)]) ⟨hx, hb, hml, hown, hts⟩ (kX4_bit l D cy s.heap.size qi) ⟨va_cnB 1 hts gX1_startFollowing_X4_bit_n54 rfl rfl rfl (hE.2 (.methodLinkNest RX1 54 yX4_bit "Villagepost") (by decide +kernel)) (hts (.initialized RX4) (by decide +kernel)) (by decide +kernel) ⟨Nat.le_of_ble_eq_true rfl, Nat.le_of_ble_eq_true rfl⟩, hts (.static yX4_bit) (by decide +kernel), trivial⟩ (vg_P.preS hE vg_P0 (A := fun _ => True) vg_D0) rfl rfl hl.1 rfl (lv_room (Nat.le_of_ble_eq_true rfl)) dX1_startFollowing_8 ⟨Nat.le_of_ble_eq_true rfl, Nat.le_of_ble_eq_true rfl⟩) hP hD hS hA (fun r _ H locs hr hP hD hS => ?_)
  subst hr
  refine lv_iconst (v := (-1)) hx hb dX1_startFollowing_11 (by decide) ?_
  refine lv_ixor hx hb dX1_startFollowing_12 ?_
  refine lv_iand hx hb dX1_startFollowing_13 ?_
  refine vg_iast hx hb hE.1 hP hD hS 1 0 rfl rfl (f := κ 0) (j := pi) (by omega) (by decide) dX1_startFollowing_14 (fun H locs hP hD hS => ?_)
  have hP : va_P D vwCl (Kw cy ko ka (va_up κ 0 (upd (κ 0) pi (((κ 0) pi) &&& ((kBit qi) ^^^ (-1))))) ζ) H := hP
  have hD : va_D (va_A (Kw cy ko ka κ ζ) s.heap.size) (Kw cy ko ka (va_up κ 0 (upd (κ 0) pi (((κ 0) pi) &&& ((kBit qi) ^^^ (-1))))) ζ) := hD
  refine lv_aload_n hx hb dX1_startFollowing_15 rfl (lv_at hl 0 rfl) ?_
  refine va_get (D := D) (ci := 2) (v := .ref (ka 1)) (C := RX1) (T := TX1) (N := 7) hx hb hts hin_RX1 hown hE.1 hP 0 rfl rfl 1 (by decide) (hts (.fieldLink RX1 15 "Villagepost$Knowledge" "follows" "[I") (by decide +kernel)) (fun _ h9 => h9) rfl dX1_startFollowing_16 ?_
  refine lv_iload_n hx hb dX1_startFollowing_19 rfl (lv_at hl 1 rfl) ?_
  refine lv_dup2_11 hx hb dX1_startFollowing_20 rfl rfl ?_
  refine vg_iald hx hb hE.1 hP 2 0 rfl rfl (f := κ 1) (j := pi) (by omega) (by decide) dX1_startFollowing_21 ?_
  refine lv_iload_n hx hb dX1_startFollowing_22 rfl (lv_at hl 2 rfl) ?_
  refine vg_calliP (va_runSN (As := [.int (nI qi)]) (rest := [.int ((κ 1) pi), .int (nI pi), .ref (ka 1)]) ⟨hx, hb, hml, hown, hts⟩ (kX4_bit l D cy H.size qi) ⟨va_cnB 1 hts gX1_startFollowing_X4_bit_n54 rfl rfl rfl (hE.2 (.methodLinkNest RX1 54 yX4_bit "Villagepost") (by decide +kernel)) (hts (.initialized RX4) (by decide +kernel)) (by decide +kernel) ⟨Nat.le_of_ble_eq_true rfl, Nat.le_of_ble_eq_true rfl⟩, hts (.static yX4_bit) (by decide +kernel), trivial⟩ (vg_P.preS hE vg_P0 (A := fun _ => True) vg_D0) rfl rfl hl.1 rfl (lv_room (Nat.le_of_ble_eq_true rfl)) dX1_startFollowing_23 ⟨Nat.le_of_ble_eq_true rfl, Nat.le_of_ble_eq_true rfl⟩) hP hD hS hA (fun r _ H locs hr hP hD hS => ?_)
  subst hr
  refine lv_ior hx hb dX1_startFollowing_26 ?_
  refine vg_iast hx hb hE.1 hP hD hS 2 0 rfl rfl (f := κ 1) (j := pi) (by omega) (by decide) dX1_startFollowing_27 (fun H locs hP hD hS => ?_)
  have hP : va_P D vwCl (Kw cy ko ka (va_up (va_up κ 0 (upd (κ 0) pi (((κ 0) pi) &&& ((kBit qi) ^^^ (-1))))) 1 (upd (κ 1) pi (((κ 1) pi) ||| (kBit qi)))) ζ) H := hP
  have hD : va_D (va_A (Kw cy ko ka κ ζ) s.heap.size) (Kw cy ko ka (va_up (va_up κ 0 (upd (κ 0) pi (((κ 0) pi) &&& ((kBit qi) ^^^ (-1))))) 1 (upd (κ 1) pi (((κ 1) pi) ||| (kBit qi)))) ζ) := hD
  have eW : (Kw cy ko ka (va_up (va_up κ 0 (upd (κ 0) pi (((κ 0) pi) &&& ((kBit qi) ^^^ (-1))))) 1 (upd (κ 1) pi (((κ 1) pi) ||| (kBit qi)))) ζ : va_W) = Kw cy ko ka (kSt κ pi qi) ζ := by first | rfl | simp []
  have hP : va_P D vwCl (Kw cy ko ka (kSt κ pi qi) ζ) H := by rw [← eW]; exact hP
  have hD : va_D (va_A (Kw cy ko ka κ ζ) s.heap.size) (Kw cy ko ka (kSt κ pi qi) ζ) := by rw [← eW]; exact hD
  exact W.vret hx hb hr (fun t ht hW => ⟨⟨(), rfl, trivial, (by rw [ht]; exact hP), hD⟩, hS.F ht⟩) hS.2.2 dX1_startFollowing_28

set_option maxHeartbeats 4000000 in
set_option maxRecDepth 100000 in
theorem kX1_part (l : Launch) (D : va_G) (cy : Nat → ClassId) (sz : Nat) (ko : Nat) (ka : Nat → Nat) (κ : Nat → Nat → Int32) (ζ : Nat → Nat → Int64) (pi : Nat) (qi : Nat) (hp : pi < 10) : Met l yX1_part wsX1_part ({ frames := 1, cells := 0, slots := 0, locals := 20 }) (vg_P D cy [.ref ko, .int (nI pi), .int (nI qi)] sz (Kw cy ko ka κ ζ)) (vg_Qv (S := Unit) D sz (Kw cy ko ka κ ζ) (fun _ => True) (fun _ => Kw cy ko ka (kPart κ pi qi) ζ)) 0 0 (va_A (Kw cy ko ka κ ζ) sz) := by
  refine Met.ofW (cc := cX1_part) (maxL := 3) (ret := none) (by decide) rfl ?_
  intro p e s m args below meth c s₁ BB hml hv
  obtain ⟨rfl, hsz, hP, hE, hD0⟩ := hv
  have hx := BB.exec
  have hb := BB.bytes
  have hr := BB.returns
  have hts := atoms_spec (ws := wsX1_part) BB.pre
  have hown : s.vm.findClass RX1 = some m.cls := findClass_of_methodNamed BB.named
  have hlocks := BB.notSynchronized
  subst hsz
  have hD := hD0.self (sz := s.heap.size)
  have hA : ∀ q : Nat, s.heap.size ≤ q → (va_A (Kw cy ko ka κ ζ) s.heap.size) q := fun q h => Or.inr h
  have hS : va_S (va_A (Kw cy ko ka κ ζ) s.heap.size) s.heap s.heap [] := va_S.rf
  have hin_RX1 : ∀ w ∈ u_ws RX1 TX1 7, w ∈ wsX1_part := by decide +kernel
  have hl := lv_entry ([.ref ko, .int (nI pi), .int (nI qi)]) (n := 3) (Nat.le_of_ble_eq_true rfl)
  rw [lg_entry_eq]
  generalize (lg_sl ([.ref ko, .int (nI pi), .int (nI qi)]) ++ List.replicate (3 - (lg_sl ([.ref ko, .int (nI pi), .int (nI qi)])).length) Slot.unset).toArray = ls at hl ⊢
  have hl : lv_has ls 3 [(0, .ref ko), (1, .int (nI pi)), (2, .int (nI qi))] := hl
  refine lv_aload_n hx hb dX1_part_0 rfl (lv_at hl 0 rfl) ?_
  refine va_get (D := D) (ci := 2) (v := .ref (ka 0)) (C := RX1) (T := TX1) (N := 7) hx hb hts hin_RX1 hown hE.1 hP 0 rfl rfl 0 (by decide) (hts (.fieldLink RX1 9 "Villagepost$Knowledge" "asks" "[I") (by decide +kernel)) (fun _ h9 => h9) rfl dX1_part_1 ?_
  refine lv_iload_n hx hb dX1_part_4 rfl (lv_at hl 1 rfl) ?_
  refine lv_dup2_11 hx hb dX1_part_5 rfl rfl ?_
  refine vg_iald hx hb hE.1 hP 1 0 rfl rfl (f := κ 0) (j := pi) (by omega) (by decide) dX1_part_6 ?_
  refine lv_iload_n hx hb dX1_part_7 rfl (lv_at hl 2 rfl) ?_
  refine vg_calliP (va_runSN (As := [.int (nI qi)]) (rest := [.int ((κ 0) pi), .int (nI pi), .ref (ka 0)]) ⟨hx, hb, hml, hown, hts⟩ (kX4_bit l D cy s.heap.size qi) ⟨va_cnB 1 hts gX1_part_X4_bit_n54 rfl rfl rfl (hE.2 (.methodLinkNest RX1 54 yX4_bit "Villagepost") (by decide +kernel)) (hts (.initialized RX4) (by decide +kernel)) (by decide +kernel) ⟨Nat.le_of_ble_eq_true rfl, Nat.le_of_ble_eq_true rfl⟩, hts (.static yX4_bit) (by decide +kernel), trivial⟩ (vg_P.preS hE vg_P0 (A := fun _ => True) vg_D0) rfl rfl hl.1 rfl (lv_room (Nat.le_of_ble_eq_true rfl)) dX1_part_8 ⟨Nat.le_of_ble_eq_true rfl, Nat.le_of_ble_eq_true rfl⟩) hP hD hS hA (fun r _ H locs hr hP hD hS => ?_)
  subst hr
  refine lv_iconst (v := (-1)) hx hb dX1_part_11 (by decide) ?_
  refine lv_ixor hx hb dX1_part_12 ?_
  refine lv_iand hx hb dX1_part_13 ?_
  refine vg_iast hx hb hE.1 hP hD hS 1 0 rfl rfl (f := κ 0) (j := pi) (by omega) (by decide) dX1_part_14 (fun H locs hP hD hS => ?_)
  have hP : va_P D vwCl (Kw cy ko ka (va_up κ 0 (upd (κ 0) pi (((κ 0) pi) &&& ((kBit qi) ^^^ (-1))))) ζ) H := hP
  have hD : va_D (va_A (Kw cy ko ka κ ζ) s.heap.size) (Kw cy ko ka (va_up κ 0 (upd (κ 0) pi (((κ 0) pi) &&& ((kBit qi) ^^^ (-1))))) ζ) := hD
  refine lv_aload_n hx hb dX1_part_15 rfl (lv_at hl 0 rfl) ?_
  refine va_get (D := D) (ci := 2) (v := .ref (ka 1)) (C := RX1) (T := TX1) (N := 7) hx hb hts hin_RX1 hown hE.1 hP 0 rfl rfl 1 (by decide) (hts (.fieldLink RX1 15 "Villagepost$Knowledge" "follows" "[I") (by decide +kernel)) (fun _ h9 => h9) rfl dX1_part_16 ?_
  refine lv_iload_n hx hb dX1_part_19 rfl (lv_at hl 1 rfl) ?_
  refine lv_dup2_11 hx hb dX1_part_20 rfl rfl ?_
  refine vg_iald hx hb hE.1 hP 2 0 rfl rfl (f := κ 1) (j := pi) (by omega) (by decide) dX1_part_21 ?_
  refine lv_iload_n hx hb dX1_part_22 rfl (lv_at hl 2 rfl) ?_
  refine vg_calliP (va_runSN (As := [.int (nI qi)]) (rest := [.int ((κ 1) pi), .int (nI pi), .ref (ka 1)]) ⟨hx, hb, hml, hown, hts⟩ (kX4_bit l D cy H.size qi) ⟨va_cnB 1 hts gX1_part_X4_bit_n54 rfl rfl rfl (hE.2 (.methodLinkNest RX1 54 yX4_bit "Villagepost") (by decide +kernel)) (hts (.initialized RX4) (by decide +kernel)) (by decide +kernel) ⟨Nat.le_of_ble_eq_true rfl, Nat.le_of_ble_eq_true rfl⟩, hts (.static yX4_bit) (by decide +kernel), trivial⟩ (vg_P.preS hE vg_P0 (A := fun _ => True) vg_D0) rfl rfl hl.1 rfl (lv_room (Nat.le_of_ble_eq_true rfl)) dX1_part_23 ⟨Nat.le_of_ble_eq_true rfl, Nat.le_of_ble_eq_true rfl⟩) hP hD hS hA (fun r _ H locs hr hP hD hS => ?_)
  subst hr
  refine lv_iconst (v := (-1)) hx hb dX1_part_26 (by decide) ?_
  refine lv_ixor hx hb dX1_part_27 ?_
  refine lv_iand hx hb dX1_part_28 ?_
  refine vg_iast hx hb hE.1 hP hD hS 2 0 rfl rfl (f := κ 1) (j := pi) (by omega) (by decide) dX1_part_29 (fun H locs hP hD hS => ?_)
  have hP : va_P D vwCl (Kw cy ko ka (va_up (va_up κ 0 (upd (κ 0) pi (((κ 0) pi) &&& ((kBit qi) ^^^ (-1))))) 1 (upd (κ 1) pi (((κ 1) pi) &&& ((kBit qi) ^^^ (-1))))) ζ) H := hP
  have hD : va_D (va_A (Kw cy ko ka κ ζ) s.heap.size) (Kw cy ko ka (va_up (va_up κ 0 (upd (κ 0) pi (((κ 0) pi) &&& ((kBit qi) ^^^ (-1))))) 1 (upd (κ 1) pi (((κ 1) pi) &&& ((kBit qi) ^^^ (-1))))) ζ) := hD
  have eW : (Kw cy ko ka (va_up (va_up κ 0 (upd (κ 0) pi (((κ 0) pi) &&& ((kBit qi) ^^^ (-1))))) 1 (upd (κ 1) pi (((κ 1) pi) &&& ((kBit qi) ^^^ (-1))))) ζ : va_W) = Kw cy ko ka (kPart κ pi qi) ζ := by first | rfl | simp []
  have hP : va_P D vwCl (Kw cy ko ka (kPart κ pi qi) ζ) H := by rw [← eW]; exact hP
  have hD : va_D (va_A (Kw cy ko ka κ ζ) s.heap.size) (Kw cy ko ka (kPart κ pi qi) ζ) := by rw [← eW]; exact hD
  exact W.vret hx hb hr (fun t ht hW => ⟨⟨(), rfl, trivial, (by rw [ht]; exact hP), hD⟩, hS.F ht⟩) hS.2.2 dX1_part_30

set_option maxHeartbeats 4000000 in
set_option maxRecDepth 100000 in
theorem kX1_learnFollow (l : Launch) (D : va_G) (cy : Nat → ClassId) (sz : Nat) (ko : Nat) (ka : Nat → Nat) (κ : Nat → Nat → Int32) (ζ : Nat → Nat → Int64) (pi : Nat) (qi : Nat) (hp : pi < 10) (hq : qi < 10) : Met l yX1_learnFollow wsX1_learnFollow ({ frames := 2, cells := 0, slots := 0, locals := 43 }) (vg_P D cy [.ref ko, .int (nI pi), .int (nI qi)] sz (Kw cy ko ka κ ζ)) (vg_Qv (S := Unit) D sz (Kw cy ko ka κ ζ) (fun _ => True) (fun _ => Kw cy ko ka (kLF κ pi qi) ζ)) 0 0 (va_A (Kw cy ko ka κ ζ) sz) := by
  refine Met.ofW (cc := cX1_learnFollow) (maxL := 3) (ret := none) (by decide) rfl ?_
  intro p e s m args below meth c s₁ BB hml hv
  obtain ⟨rfl, hsz, hP, hE, hD0⟩ := hv
  have hx := BB.exec
  have hb := BB.bytes
  have hr := BB.returns
  have hts := atoms_spec (ws := wsX1_learnFollow) BB.pre
  have hown : s.vm.findClass RX1 = some m.cls := findClass_of_methodNamed BB.named
  have hlocks := BB.notSynchronized
  subst hsz
  have hD := hD0.self (sz := s.heap.size)
  have hA : ∀ q : Nat, s.heap.size ≤ q → (va_A (Kw cy ko ka κ ζ) s.heap.size) q := fun q h => Or.inr h
  have hS : va_S (va_A (Kw cy ko ka κ ζ) s.heap.size) s.heap s.heap [] := va_S.rf
  have hin_RX1 : ∀ w ∈ u_ws RX1 TX1 7, w ∈ wsX1_learnFollow := by decide +kernel
  have hl := lv_entry ([.ref ko, .int (nI pi), .int (nI qi)]) (n := 3) (Nat.le_of_ble_eq_true rfl)
  rw [lg_entry_eq]
  generalize (lg_sl ([.ref ko, .int (nI pi), .int (nI qi)]) ++ List.replicate (3 - (lg_sl ([.ref ko, .int (nI pi), .int (nI qi)])).length) Slot.unset).toArray = ls at hl ⊢
  have hl : lv_has ls 3 [(0, .ref ko), (1, .int (nI pi)), (2, .int (nI qi))] := hl
  refine lv_aload_n hx hb dX1_learnFollow_0 rfl (lv_at hl 0 rfl) ?_
  refine lv_iload_n hx hb dX1_learnFollow_1 rfl (lv_at hl 1 rfl) ?_
  refine lv_iload_n hx hb dX1_learnFollow_2 rfl (lv_at hl 2 rfl) ?_
  refine vg_calliW (va_runV (As := [.int (nI pi), .int (nI qi)]) (rest := []) ⟨hx, hb, hml, hown, hts⟩ (kX1_isFollowing l D cy s.heap.size ko ka κ ζ pi qi (by omega)) (cwV 2 hts gX1_learnFollow_X1_isFollowing rfl rfl rfl (by decide +kernel) ⟨Nat.le_of_ble_eq_true rfl, Nat.le_of_ble_eq_true rfl⟩) (vg_P.preV hE hP 0 rfl rfl hP hD) rfl rfl hl.1 rfl (lv_room (Nat.le_of_ble_eq_true rfl)) dX1_learnFollow_3 ⟨Nat.le_of_ble_eq_true rfl, Nat.le_of_ble_eq_true rfl⟩) hP hD hS hA (fun r _ H locs hr hP hD hS => ?_)
  subst hr
  refine lv_if_ne (tgt := 31) hx hb dX1_learnFollow_6 (by decide) (fun r1 => ?_) (fun r1 => ?_)
  · have c1 : (kHas ((κ 1) pi) qi) = true := bI_n0.mp r1
    have eW : (Kw cy ko ka κ ζ : va_W) = Kw cy ko ka (kLF κ pi qi) ζ := by simp [kLF, c1]
    have hP : va_P D vwCl (Kw cy ko ka (kLF κ pi qi) ζ) H := by rw [← eW]; exact hP
    have hD : va_D (va_A (Kw cy ko ka κ ζ) s.heap.size) (Kw cy ko ka (kLF κ pi qi) ζ) := by rw [← eW]; exact hD
    exact W.vret hx hb hr (fun t ht hW => ⟨⟨(), rfl, trivial, (by rw [ht]; exact hP), hD⟩, hS.F ht⟩) hS.2.2 dX1_learnFollow_31
  · have c1 : (kHas ((κ 1) pi) qi) = false := bI_0.mp r1
    refine lv_aload_n hx hb dX1_learnFollow_9 rfl (lv_at hl 0 rfl) ?_
    refine lv_iload_n hx hb dX1_learnFollow_10 rfl (lv_at hl 1 rfl) ?_
    refine lv_iload_n hx hb dX1_learnFollow_11 rfl (lv_at hl 2 rfl) ?_
    refine vg_calliW (va_runV (As := [.int (nI pi), .int (nI qi)]) (rest := []) ⟨hx, hb, hml, hown, hts⟩ (kX1_isBlockBetween l D cy H.size ko ka κ ζ pi qi (by omega) (by omega)) (cwV 2 hts gX1_learnFollow_X1_isBlockBetween rfl rfl rfl (by decide +kernel) ⟨Nat.le_of_ble_eq_true rfl, Nat.le_of_ble_eq_true rfl⟩) (vg_P.preV hE hP 0 rfl rfl hP hD) rfl rfl hl.1 rfl (lv_room (Nat.le_of_ble_eq_true rfl)) dX1_learnFollow_12 ⟨Nat.le_of_ble_eq_true rfl, Nat.le_of_ble_eq_true rfl⟩) hP hD hS hA (fun r _ H locs hr hP hD hS => ?_)
    subst hr
    refine lv_if_ne (tgt := 31) hx hb dX1_learnFollow_15 (by decide) (fun r2 => ?_) (fun r2 => ?_)
    · have c2 : (kBet κ pi qi) = true := bI_n0.mp r2
      have eW : (Kw cy ko ka κ ζ : va_W) = Kw cy ko ka (kLF κ pi qi) ζ := by simp [kLF, c1, c2]
      have hP : va_P D vwCl (Kw cy ko ka (kLF κ pi qi) ζ) H := by rw [← eW]; exact hP
      have hD : va_D (va_A (Kw cy ko ka κ ζ) s.heap.size) (Kw cy ko ka (kLF κ pi qi) ζ) := by rw [← eW]; exact hD
      exact W.vret hx hb hr (fun t ht hW => ⟨⟨(), rfl, trivial, (by rw [ht]; exact hP), hD⟩, hS.F ht⟩) hS.2.2 dX1_learnFollow_31
    · have c2 : (kBet κ pi qi) = false := bI_0.mp r2
      refine lv_aload_n hx hb dX1_learnFollow_18 rfl (lv_at hl 0 rfl) ?_
      refine va_get (D := D) (ci := 2) (v := .ref (ka 0)) (C := RX1) (T := TX1) (N := 7) hx hb hts hin_RX1 hown hE.1 hP 0 rfl rfl 0 (by decide) (hts (.fieldLink RX1 9 "Villagepost$Knowledge" "asks" "[I") (by decide +kernel)) (fun _ h9 => h9) rfl dX1_learnFollow_19 ?_
      refine lv_iload_n hx hb dX1_learnFollow_22 rfl (lv_at hl 1 rfl) ?_
      refine lv_dup2_11 hx hb dX1_learnFollow_23 rfl rfl ?_
      refine vg_iald hx hb hE.1 hP 1 0 rfl rfl (f := κ 0) (j := pi) (by omega) (by decide) dX1_learnFollow_24 ?_
      refine lv_iload_n hx hb dX1_learnFollow_25 rfl (lv_at hl 2 rfl) ?_
      refine vg_calliP (va_runSN (As := [.int (nI qi)]) (rest := [.int ((κ 0) pi), .int (nI pi), .ref (ka 0)]) ⟨hx, hb, hml, hown, hts⟩ (kX4_bit l D cy H.size qi) ⟨va_cnB 1 hts gX1_learnFollow_X4_bit_n54 rfl rfl rfl (hE.2 (.methodLinkNest RX1 54 yX4_bit "Villagepost") (by decide +kernel)) (hts (.initialized RX4) (by decide +kernel)) (by decide +kernel) ⟨Nat.le_of_ble_eq_true rfl, Nat.le_of_ble_eq_true rfl⟩, hts (.static yX4_bit) (by decide +kernel), trivial⟩ (vg_P.preS hE vg_P0 (A := fun _ => True) vg_D0) rfl rfl hl.1 rfl (lv_room (Nat.le_of_ble_eq_true rfl)) dX1_learnFollow_26 ⟨Nat.le_of_ble_eq_true rfl, Nat.le_of_ble_eq_true rfl⟩) hP hD hS hA (fun r _ H locs hr hP hD hS => ?_)
      subst hr
      refine lv_ior hx hb dX1_learnFollow_29 ?_
      refine vg_iast hx hb hE.1 hP hD hS 1 0 rfl rfl (f := κ 0) (j := pi) (by omega) (by decide) dX1_learnFollow_30 (fun H locs hP hD hS => ?_)
      have hP : va_P D vwCl (Kw cy ko ka (va_up κ 0 (upd (κ 0) pi (((κ 0) pi) ||| (kBit qi)))) ζ) H := hP
      have hD : va_D (va_A (Kw cy ko ka κ ζ) s.heap.size) (Kw cy ko ka (va_up κ 0 (upd (κ 0) pi (((κ 0) pi) ||| (kBit qi)))) ζ) := hD
      have eW : (Kw cy ko ka (va_up κ 0 (upd (κ 0) pi (((κ 0) pi) ||| (kBit qi)))) ζ : va_W) = Kw cy ko ka (kLF κ pi qi) ζ := by simp [kLF, c1, c2]
      have hP : va_P D vwCl (Kw cy ko ka (kLF κ pi qi) ζ) H := by rw [← eW]; exact hP
      have hD : va_D (va_A (Kw cy ko ka κ ζ) s.heap.size) (Kw cy ko ka (kLF κ pi qi) ζ) := by rw [← eW]; exact hD
      exact W.vret hx hb hr (fun t ht hW => ⟨⟨(), rfl, trivial, (by rw [ht]; exact hP), hD⟩, hS.F ht⟩) hS.2.2 dX1_learnFollow_31

set_option maxHeartbeats 4000000 in
set_option maxRecDepth 100000 in
theorem kX1_learnAccept (l : Launch) (D : va_G) (cy : Nat → ClassId) (sz : Nat) (ko : Nat) (ka : Nat → Nat) (κ : Nat → Nat → Int32) (ζ : Nat → Nat → Int64) (pi : Nat) (qi : Nat) (hp : pi < 10) (hq : qi < 10) : Met l yX1_learnAccept wsX1_learnAccept ({ frames := 2, cells := 0, slots := 0, locals := 43 }) (vg_P D cy [.ref ko, .int (nI pi), .int (nI qi)] sz (Kw cy ko ka κ ζ)) (vg_Qv (S := Unit) D sz (Kw cy ko ka κ ζ) (fun _ => True) (fun _ => Kw cy ko ka (kLA κ pi qi) ζ)) 0 0 (va_A (Kw cy ko ka κ ζ) sz) := by
  refine Met.ofW (cc := cX1_learnAccept) (maxL := 3) (ret := none) (by decide) rfl ?_
  intro p e s m args below meth c s₁ BB hml hv
  obtain ⟨rfl, hsz, hP, hE, hD0⟩ := hv
  have hx := BB.exec
  have hb := BB.bytes
  have hr := BB.returns
  have hts := atoms_spec (ws := wsX1_learnAccept) BB.pre
  have hown : s.vm.findClass RX1 = some m.cls := findClass_of_methodNamed BB.named
  have hlocks := BB.notSynchronized
  subst hsz
  have hD := hD0.self (sz := s.heap.size)
  have hA : ∀ q : Nat, s.heap.size ≤ q → (va_A (Kw cy ko ka κ ζ) s.heap.size) q := fun q h => Or.inr h
  have hS : va_S (va_A (Kw cy ko ka κ ζ) s.heap.size) s.heap s.heap [] := va_S.rf
  have hl := lv_entry ([.ref ko, .int (nI pi), .int (nI qi)]) (n := 3) (Nat.le_of_ble_eq_true rfl)
  rw [lg_entry_eq]
  generalize (lg_sl ([.ref ko, .int (nI pi), .int (nI qi)]) ++ List.replicate (3 - (lg_sl ([.ref ko, .int (nI pi), .int (nI qi)])).length) Slot.unset).toArray = ls at hl ⊢
  have hl : lv_has ls 3 [(0, .ref ko), (1, .int (nI pi)), (2, .int (nI qi))] := hl
  refine lv_aload_n hx hb dX1_learnAccept_0 rfl (lv_at hl 0 rfl) ?_
  refine lv_iload_n hx hb dX1_learnAccept_1 rfl (lv_at hl 2 rfl) ?_
  refine lv_iload_n hx hb dX1_learnAccept_2 rfl (lv_at hl 1 rfl) ?_
  refine vg_calliW (va_runV (As := [.int (nI qi), .int (nI pi)]) (rest := []) ⟨hx, hb, hml, hown, hts⟩ (kX1_isAsking l D cy s.heap.size ko ka κ ζ qi pi (by omega)) (cwV 2 hts gX1_learnAccept_X1_isAsking rfl rfl rfl (by decide +kernel) ⟨Nat.le_of_ble_eq_true rfl, Nat.le_of_ble_eq_true rfl⟩) (vg_P.preV hE hP 0 rfl rfl hP hD) rfl rfl hl.1 rfl (lv_room (Nat.le_of_ble_eq_true rfl)) dX1_learnAccept_3 ⟨Nat.le_of_ble_eq_true rfl, Nat.le_of_ble_eq_true rfl⟩) hP hD hS hA (fun r _ H locs hr hP hD hS => ?_)
  subst hr
  refine lv_if_eq (tgt := 15) hx hb dX1_learnAccept_6 (by decide) (fun r1 => ?_) (fun r1 => ?_)
  · have c1 : (kHas ((κ 0) qi) pi) = false := bI_0.mp r1
    have eW : (Kw cy ko ka κ ζ : va_W) = Kw cy ko ka (kLA κ pi qi) ζ := by simp [kLA, c1]
    have hP : va_P D vwCl (Kw cy ko ka (kLA κ pi qi) ζ) H := by rw [← eW]; exact hP
    have hD : va_D (va_A (Kw cy ko ka κ ζ) s.heap.size) (Kw cy ko ka (kLA κ pi qi) ζ) := by rw [← eW]; exact hD
    exact W.vret hx hb hr (fun t ht hW => ⟨⟨(), rfl, trivial, (by rw [ht]; exact hP), hD⟩, hS.F ht⟩) hS.2.2 dX1_learnAccept_15
  · have c1 : (kHas ((κ 0) qi) pi) = true := bI_n0.mp r1
    refine lv_aload_n hx hb dX1_learnAccept_9 rfl (lv_at hl 0 rfl) ?_
    refine lv_iload_n hx hb dX1_learnAccept_10 rfl (lv_at hl 2 rfl) ?_
    refine lv_iload_n hx hb dX1_learnAccept_11 rfl (lv_at hl 1 rfl) ?_
    refine vg_callvW (va_runV (As := [.int (nI qi), .int (nI pi)]) (rest := []) ⟨hx, hb, hml, hown, hts⟩ (kX1_startFollowing l D cy H.size ko ka κ ζ qi pi (by omega)) (cwV 2 hts gX1_learnAccept_X1_startFollowing rfl rfl rfl (by decide +kernel) ⟨Nat.le_of_ble_eq_true rfl, Nat.le_of_ble_eq_true rfl⟩) (vg_P.preV hE hP 0 rfl rfl hP hD) rfl rfl hl.1 rfl (lv_room (Nat.le_of_ble_eq_true rfl)) dX1_learnAccept_12 ⟨Nat.le_of_ble_eq_true rfl, Nat.le_of_ble_eq_true rfl⟩) hP hD hS hA (fun _ H locs hrv hP hD hS => ?_)
    have hP : va_P D vwCl (Kw cy ko ka (kSt κ qi pi) ζ) H := hP
    have hD : va_D (va_A (Kw cy ko ka κ ζ) s.heap.size) (Kw cy ko ka (kSt κ qi pi) ζ) := hD
    have eW : (Kw cy ko ka (kSt κ qi pi) ζ : va_W) = Kw cy ko ka (kLA κ pi qi) ζ := by simp [kLA, c1]
    have hP : va_P D vwCl (Kw cy ko ka (kLA κ pi qi) ζ) H := by rw [← eW]; exact hP
    have hD : va_D (va_A (Kw cy ko ka κ ζ) s.heap.size) (Kw cy ko ka (kLA κ pi qi) ζ) := by rw [← eW]; exact hD
    exact W.vret hx hb hr (fun t ht hW => ⟨⟨(), rfl, trivial, (by rw [ht]; exact hP), hD⟩, hS.F ht⟩) hS.2.2 dX1_learnAccept_15

set_option maxHeartbeats 4000000 in
set_option maxRecDepth 100000 in
theorem kX1_learnMove (l : Launch) (D : va_G) (cy : Nat → ClassId) (sz : Nat) (ko : Nat) (ka : Nat → Nat) (κ : Nat → Nat → Int32) (ζ : Nat → Nat → Int64) (pi : Nat) (qi : Nat) (td : Int32) (hp : pi < 10) (hq : qi < 10) : Met l yX1_learnMove wsX1_learnMove ({ frames := 2, cells := 0, slots := 0, locals := 43 }) (vg_P D cy [.ref ko, .int (nI pi), .int (nI qi), .int td] sz (Kw cy ko ka κ ζ)) (vg_Qv (S := Unit) D sz (Kw cy ko ka κ ζ) (fun _ => True) (fun _ => Kw cy ko ka (kLM κ pi qi td 10) ζ)) 0 0 (va_A (Kw cy ko ka κ ζ) sz) := by
  refine Met.ofW (cc := cX1_learnMove) (maxL := 5) (ret := none) (by decide) rfl ?_
  intro p e s m args below meth c s₁ BB hml hv
  obtain ⟨rfl, hsz, hP, hE, hD0⟩ := hv
  have hx := BB.exec
  have hb := BB.bytes
  have hr := BB.returns
  have hts := atoms_spec (ws := wsX1_learnMove) BB.pre
  have hown : s.vm.findClass RX1 = some m.cls := findClass_of_methodNamed BB.named
  have hlocks := BB.notSynchronized
  subst hsz
  have hD := hD0.self (sz := s.heap.size)
  have hA : ∀ q : Nat, s.heap.size ≤ q → (va_A (Kw cy ko ka κ ζ) s.heap.size) q := fun q h => Or.inr h
  have hS : va_S (va_A (Kw cy ko ka κ ζ) s.heap.size) s.heap s.heap [] := va_S.rf
  have hin_RX1 : ∀ w ∈ u_ws RX1 TX1 7, w ∈ wsX1_learnMove := by decide +kernel
  have hl := lv_entry ([.ref ko, .int (nI pi), .int (nI qi), .int td]) (n := 5) (Nat.le_of_ble_eq_true rfl)
  rw [lg_entry_eq]
  generalize (lg_sl ([.ref ko, .int (nI pi), .int (nI qi), .int td]) ++ List.replicate (5 - (lg_sl ([.ref ko, .int (nI pi), .int (nI qi), .int td])).length) Slot.unset).toArray = ls at hl ⊢
  have hl : lv_has ls 5 [(0, .ref ko), (1, .int (nI pi)), (2, .int (nI qi)), (3, .int td)] := hl
  have L3 : ∀ (fuel : Nat) (o0 : Nat), 10 - o0 < fuel → (o0 ≤ 10) → ∀ (H : Heap) (locs : List Loc), va_P D vwCl (Kw cy ko ka (kLM κ pi qi td o0) ζ) H → va_D (va_A (Kw cy ko ka κ ζ) s.heap.size) (Kw cy ko ka (kLM κ pi qi td o0) ζ) → va_S (va_A (Kw cy ko ka κ ζ) s.heap.size) s.heap H locs → ∀ ls : Array Slot, lv_has ls 5 [(0, .ref ko), (1, .int (nI pi)), (2, .int (nI qi)), (3, .int td), (4, .int (nI o0))] → W p l e (headSpec wsX1_learnMove ({ frames := 2, cells := 0, slots := 0, locals := 43 })).room s m ([.ref ko, .int (nI pi), .int (nI qi), .int td] : List Value).toArray below meth c H locs 0 0 (MQ below (vg_Qv (S := Unit) D s.heap.size (Kw cy ko ka κ ζ) (fun _ => True) (fun _ => Kw cy ko ka (kLM κ pi qi td 10) ζ)) ([.ref ko, .int (nI pi), .int (nI qi), .int td] : List Value).toArray s 0 0 (va_A (Kw cy ko ka κ ζ) s.heap.size)) (F0 m 3 ls []) := by
    intro fuel
    induction fuel with
    | zero => intros; omega
    | succ fuel ih =>
      intro o0 hfuel hi H locs hP hD hS ls hl
      refine lv_iload hx hb dX1_learnMove_3 (lv_at hl 4 rfl) ?_
      refine lv_bipush (v := 10) hx hb dX1_learnMove_5 (by decide) ?_
      refine lv_icmp_ge (tgt := 64) hx hb dX1_learnMove_7 (by decide) (fun r1 => ?_) (fun r1 => ?_)
      · have c1 : 10 ≤ o0 := (nI_leI (a := 10) (b := o0) (by omega) (by omega)).mp r1
        have e4 : o0 = 10 := by omega
        have eW : (Kw cy ko ka (kLM κ pi qi td o0) ζ : va_W) = Kw cy ko ka (kLM κ pi qi td 10) ζ := by rw [e4]
        have hP : va_P D vwCl (Kw cy ko ka (kLM κ pi qi td 10) ζ) H := by rw [← eW]; exact hP
        have hD : va_D (va_A (Kw cy ko ka κ ζ) s.heap.size) (Kw cy ko ka (kLM κ pi qi td 10) ζ) := by rw [← eW]; exact hD
        exact W.vret hx hb hr (fun t ht hW => ⟨⟨(), rfl, trivial, (by rw [ht]; exact hP), hD⟩, hS.F ht⟩) hS.2.2 dX1_learnMove_64
      · have c1 : o0 < 10 := Nat.lt_of_not_le (fun q => r1 ((nI_leI (a := 10) (b := o0) (by omega) (by omega)).mpr q))
        refine lv_iload_n hx hb dX1_learnMove_10 rfl (lv_at hl 3 rfl) ?_
        refine lv_iload hx hb dX1_learnMove_11 (lv_at hl 4 rfl) ?_
        refine vg_calliP (va_runSN (As := [.int td, .int (nI o0)]) (rest := []) ⟨hx, hb, hml, hown, hts⟩ (kX4_has l D cy H.size td o0) ⟨va_cnB 2 hts gX1_learnMove_X4_has_n81 rfl rfl rfl (hE.2 (.methodLinkNest RX1 81 yX4_has "Villagepost") (by decide +kernel)) (hts (.initialized RX4) (by decide +kernel)) (by decide +kernel) ⟨Nat.le_of_ble_eq_true rfl, Nat.le_of_ble_eq_true rfl⟩, hts (.static yX4_has) (by decide +kernel), trivial⟩ (vg_P.preS hE vg_P0 (A := fun _ => True) vg_D0) rfl rfl hl.1 rfl (lv_room (Nat.le_of_ble_eq_true rfl)) dX1_learnMove_13 ⟨Nat.le_of_ble_eq_true rfl, Nat.le_of_ble_eq_true rfl⟩) hP hD hS hA (fun r _ H locs hr hP hD hS => ?_)
        subst hr
        refine lv_if_eq (tgt := 58) hx hb dX1_learnMove_16 (by decide) (fun r2 => ?_) (fun r2 => ?_)
        · have c2 : (kHas td o0) = false := bI_0.mp r2
          refine lv_iinc (v := (nI (o0 + 1))) (lv' := [(4, .int (nI (o0 + 1))), (0, .ref ko), (1, .int (nI pi)), (2, .int (nI qi)), (3, .int td)]) hx hb dX1_learnMove_58 hl (k := 4) rfl (by first | rfl | exact nI_add _ _ | decide) (by decide) rfl (fun ls hl => ?_)
          have hl : lv_has ls 5 [(0, .ref ko), (1, .int (nI pi)), (2, .int (nI qi)), (3, .int td), (4, .int (nI (o0 + 1)))] := lv_sub hl [1, 2, 3, 4, 0] rfl
          refine lv_goto (tgt := 3) hx hb dX1_learnMove_61 (by decide) ?_
          have eW : (Kw cy ko ka (kLM κ pi qi td o0) ζ : va_W) = Kw cy ko ka (kLM κ pi qi td (o0 + 1)) ζ := by simp [kLM, kLM1, c1, c2]
          have hP : va_P D vwCl (Kw cy ko ka (kLM κ pi qi td (o0 + 1)) ζ) H := by rw [← eW]; exact hP
          have hD : va_D (va_A (Kw cy ko ka κ ζ) s.heap.size) (Kw cy ko ka (kLM κ pi qi td (o0 + 1)) ζ) := by rw [← eW]; exact hD
          exact ih (o0 + 1) (by omega) (by omega) _ _ hP hD hS ls (by exact lv_sub hl [0, 1, 2, 3, 4] rfl)
        · have c2 : (kHas td o0) = true := bI_n0.mp r2
          refine lv_aload_n hx hb dX1_learnMove_19 rfl (lv_at hl 0 rfl) ?_
          refine va_get (D := D) (ci := 2) (v := .ref (ka 1)) (C := RX1) (T := TX1) (N := 7) hx hb hts hin_RX1 hown hE.1 hP 0 rfl rfl 1 (by decide) (hts (.fieldLink RX1 15 "Villagepost$Knowledge" "follows" "[I") (by decide +kernel)) (fun _ h9 => h9) rfl dX1_learnMove_20 ?_
          refine lv_iload hx hb dX1_learnMove_23 (lv_at hl 4 rfl) ?_
          refine lv_dup2_11 hx hb dX1_learnMove_25 rfl rfl ?_
          refine vg_iald hx hb hE.1 hP 2 0 rfl rfl (f := (kLM κ pi qi td o0) 1) (j := o0) (by omega) (by decide) dX1_learnMove_26 ?_
          refine lv_iload_n hx hb dX1_learnMove_27 rfl (lv_at hl 1 rfl) ?_
          refine vg_calliP (va_runSN (As := [.int (nI pi)]) (rest := [.int (((kLM κ pi qi td o0) 1) o0), .int (nI o0), .ref (ka 1)]) ⟨hx, hb, hml, hown, hts⟩ (kX4_bit l D cy H.size pi) ⟨va_cnB 1 hts gX1_learnMove_X4_bit_n54 rfl rfl rfl (hE.2 (.methodLinkNest RX1 54 yX4_bit "Villagepost") (by decide +kernel)) (hts (.initialized RX4) (by decide +kernel)) (by decide +kernel) ⟨Nat.le_of_ble_eq_true rfl, Nat.le_of_ble_eq_true rfl⟩, hts (.static yX4_bit) (by decide +kernel), trivial⟩ (vg_P.preS hE vg_P0 (A := fun _ => True) vg_D0) rfl rfl hl.1 rfl (lv_room (Nat.le_of_ble_eq_true rfl)) dX1_learnMove_28 ⟨Nat.le_of_ble_eq_true rfl, Nat.le_of_ble_eq_true rfl⟩) hP hD hS hA (fun r _ H locs hr hP hD hS => ?_)
          subst hr
          refine lv_iconst (v := (-1)) hx hb dX1_learnMove_31 (by decide) ?_
          refine lv_ixor hx hb dX1_learnMove_32 ?_
          refine lv_iand hx hb dX1_learnMove_33 ?_
          refine vg_iast hx hb hE.1 hP hD hS 2 0 rfl rfl (f := (kLM κ pi qi td o0) 1) (j := o0) (by omega) (by decide) dX1_learnMove_34 (fun H locs hP hD hS => ?_)
          have hP : va_P D vwCl (Kw cy ko ka (va_up (kLM κ pi qi td o0) 1 (upd ((kLM κ pi qi td o0) 1) o0 ((((kLM κ pi qi td o0) 1) o0) &&& ((kBit pi) ^^^ (-1))))) ζ) H := hP
          have hD : va_D (va_A (Kw cy ko ka κ ζ) s.heap.size) (Kw cy ko ka (va_up (kLM κ pi qi td o0) 1 (upd ((kLM κ pi qi td o0) 1) o0 ((((kLM κ pi qi td o0) 1) o0) &&& ((kBit pi) ^^^ (-1))))) ζ) := hD
          refine lv_iload hx hb dX1_learnMove_35 (lv_at hl 4 rfl) ?_
          refine lv_iload_n hx hb dX1_learnMove_37 rfl (lv_at hl 2 rfl) ?_
          refine lv_icmp_eq (tgt := 58) hx hb dX1_learnMove_38 (by decide) (fun r3 => ?_) (fun r3 => ?_)
          · have c3 : o0 = qi := (nI_eq (a := o0) (b := qi) (by omega) (by omega)).mp r3
            refine lv_iinc (v := (nI (o0 + 1))) (lv' := [(4, .int (nI (o0 + 1))), (0, .ref ko), (1, .int (nI pi)), (2, .int (nI qi)), (3, .int td)]) hx hb dX1_learnMove_58 hl (k := 4) rfl (by first | rfl | exact nI_add _ _ | decide) (by decide) rfl (fun ls hl => ?_)
            have hl : lv_has ls 5 [(0, .ref ko), (1, .int (nI pi)), (2, .int (nI qi)), (3, .int td), (4, .int (nI (o0 + 1)))] := lv_sub hl [1, 2, 3, 4, 0] rfl
            refine lv_goto (tgt := 3) hx hb dX1_learnMove_61 (by decide) ?_
            have eW : (Kw cy ko ka (va_up (kLM κ pi qi td o0) 1 (upd ((kLM κ pi qi td o0) 1) o0 ((((kLM κ pi qi td o0) 1) o0) &&& ((kBit pi) ^^^ (-1))))) ζ : va_W) = Kw cy ko ka (kLM κ pi qi td (o0 + 1)) ζ := by simp [kLM, kLM1, c1, c2, eq_true c3]
            have hP : va_P D vwCl (Kw cy ko ka (kLM κ pi qi td (o0 + 1)) ζ) H := by rw [← eW]; exact hP
            have hD : va_D (va_A (Kw cy ko ka κ ζ) s.heap.size) (Kw cy ko ka (kLM κ pi qi td (o0 + 1)) ζ) := by rw [← eW]; exact hD
            exact ih (o0 + 1) (by omega) (by omega) _ _ hP hD hS ls (by exact lv_sub hl [0, 1, 2, 3, 4] rfl)
          · have c3 : ¬ o0 = qi := fun q => r3 ((nI_eq (a := o0) (b := qi) (by omega) (by omega)).mpr q)
            refine lv_aload_n hx hb dX1_learnMove_41 rfl (lv_at hl 0 rfl) ?_
            refine lv_iload hx hb dX1_learnMove_42 (lv_at hl 4 rfl) ?_
            refine lv_iload_n hx hb dX1_learnMove_44 rfl (lv_at hl 2 rfl) ?_
            refine vg_calliW (va_runV (As := [.int (nI o0), .int (nI qi)]) (rest := []) ⟨hx, hb, hml, hown, hts⟩ (kX1_isBlockBetween l D cy H.size ko ka (va_up (kLM κ pi qi td o0) 1 (upd ((kLM κ pi qi td o0) 1) o0 ((((kLM κ pi qi td o0) 1) o0) &&& ((kBit pi) ^^^ (-1))))) ζ o0 qi (by omega) (by omega)) (cwV 2 hts gX1_learnMove_X1_isBlockBetween rfl rfl rfl (by decide +kernel) ⟨Nat.le_of_ble_eq_true rfl, Nat.le_of_ble_eq_true rfl⟩) (vg_P.preV hE hP 0 rfl rfl hP hD) rfl rfl hl.1 rfl (lv_room (Nat.le_of_ble_eq_true rfl)) dX1_learnMove_45 ⟨Nat.le_of_ble_eq_true rfl, Nat.le_of_ble_eq_true rfl⟩) hP hD hS hA (fun r _ H locs hr hP hD hS => ?_)
            subst hr
            refine lv_if_ne (tgt := 58) hx hb dX1_learnMove_48 (by decide) (fun r4 => ?_) (fun r4 => ?_)
            · have c4 : (kBet (kLM κ pi qi td o0) o0 qi) = true := bI_n0.mp r4
              refine lv_iinc (v := (nI (o0 + 1))) (lv' := [(4, .int (nI (o0 + 1))), (0, .ref ko), (1, .int (nI pi)), (2, .int (nI qi)), (3, .int td)]) hx hb dX1_learnMove_58 hl (k := 4) rfl (by first | rfl | exact nI_add _ _ | decide) (by decide) rfl (fun ls hl => ?_)
              have hl : lv_has ls 5 [(0, .ref ko), (1, .int (nI pi)), (2, .int (nI qi)), (3, .int td), (4, .int (nI (o0 + 1)))] := lv_sub hl [1, 2, 3, 4, 0] rfl
              refine lv_goto (tgt := 3) hx hb dX1_learnMove_61 (by decide) ?_
              have eW : (Kw cy ko ka (va_up (kLM κ pi qi td o0) 1 (upd ((kLM κ pi qi td o0) 1) o0 ((((kLM κ pi qi td o0) 1) o0) &&& ((kBit pi) ^^^ (-1))))) ζ : va_W) = Kw cy ko ka (kLM κ pi qi td (o0 + 1)) ζ := by simp [kLM, kLM1, c1, c2, c3, c4]
              have hP : va_P D vwCl (Kw cy ko ka (kLM κ pi qi td (o0 + 1)) ζ) H := by rw [← eW]; exact hP
              have hD : va_D (va_A (Kw cy ko ka κ ζ) s.heap.size) (Kw cy ko ka (kLM κ pi qi td (o0 + 1)) ζ) := by rw [← eW]; exact hD
              exact ih (o0 + 1) (by omega) (by omega) _ _ hP hD hS ls (by exact lv_sub hl [0, 1, 2, 3, 4] rfl)
            · have c4 : (kBet (kLM κ pi qi td o0) o0 qi) = false := bI_0.mp r4
              refine lv_aload_n hx hb dX1_learnMove_51 rfl (lv_at hl 0 rfl) ?_
              refine lv_iload hx hb dX1_learnMove_52 (lv_at hl 4 rfl) ?_
              refine lv_iload_n hx hb dX1_learnMove_54 rfl (lv_at hl 2 rfl) ?_
              refine vg_callvW (va_runV (As := [.int (nI o0), .int (nI qi)]) (rest := []) ⟨hx, hb, hml, hown, hts⟩ (kX1_startFollowing l D cy H.size ko ka (va_up (kLM κ pi qi td o0) 1 (upd ((kLM κ pi qi td o0) 1) o0 ((((kLM κ pi qi td o0) 1) o0) &&& ((kBit pi) ^^^ (-1))))) ζ o0 qi (by omega)) (cwV 2 hts gX1_learnMove_X1_startFollowing rfl rfl rfl (by decide +kernel) ⟨Nat.le_of_ble_eq_true rfl, Nat.le_of_ble_eq_true rfl⟩) (vg_P.preV hE hP 0 rfl rfl hP hD) rfl rfl hl.1 rfl (lv_room (Nat.le_of_ble_eq_true rfl)) dX1_learnMove_55 ⟨Nat.le_of_ble_eq_true rfl, Nat.le_of_ble_eq_true rfl⟩) hP hD hS hA (fun _ H locs hrv hP hD hS => ?_)
              have hP : va_P D vwCl (Kw cy ko ka (kSt (va_up (kLM κ pi qi td o0) 1 (upd ((kLM κ pi qi td o0) 1) o0 ((((kLM κ pi qi td o0) 1) o0) &&& ((kBit pi) ^^^ (-1))))) o0 qi) ζ) H := hP
              have hD : va_D (va_A (Kw cy ko ka κ ζ) s.heap.size) (Kw cy ko ka (kSt (va_up (kLM κ pi qi td o0) 1 (upd ((kLM κ pi qi td o0) 1) o0 ((((kLM κ pi qi td o0) 1) o0) &&& ((kBit pi) ^^^ (-1))))) o0 qi) ζ) := hD
              refine lv_iinc (v := (nI (o0 + 1))) (lv' := [(4, .int (nI (o0 + 1))), (0, .ref ko), (1, .int (nI pi)), (2, .int (nI qi)), (3, .int td)]) hx hb dX1_learnMove_58 hl (k := 4) rfl (by first | rfl | exact nI_add _ _ | decide) (by decide) rfl (fun ls hl => ?_)
              have hl : lv_has ls 5 [(0, .ref ko), (1, .int (nI pi)), (2, .int (nI qi)), (3, .int td), (4, .int (nI (o0 + 1)))] := lv_sub hl [1, 2, 3, 4, 0] rfl
              refine lv_goto (tgt := 3) hx hb dX1_learnMove_61 (by decide) ?_
              have eW : (Kw cy ko ka (kSt (va_up (kLM κ pi qi td o0) 1 (upd ((kLM κ pi qi td o0) 1) o0 ((((kLM κ pi qi td o0) 1) o0) &&& ((kBit pi) ^^^ (-1))))) o0 qi) ζ : va_W) = Kw cy ko ka (kLM κ pi qi td (o0 + 1)) ζ := by simp [kLM, kLM1, c1, c2, c3, c4]
              have hP : va_P D vwCl (Kw cy ko ka (kLM κ pi qi td (o0 + 1)) ζ) H := by rw [← eW]; exact hP
              have hD : va_D (va_A (Kw cy ko ka κ ζ) s.heap.size) (Kw cy ko ka (kLM κ pi qi td (o0 + 1)) ζ) := by rw [← eW]; exact hD
              exact ih (o0 + 1) (by omega) (by omega) _ _ hP hD hS ls (by exact lv_sub hl [0, 1, 2, 3, 4] rfl)
  refine lv_iconst (v := 0) hx hb dX1_learnMove_0 (by decide) ?_
  refine lv_istore (lv' := [(4, .int 0), (0, .ref ko), (1, .int (nI pi)), (2, .int (nI qi)), (3, .int td)]) hx hb dX1_learnMove_1 hl (by decide) rfl (fun ls hl => ?_)
  have hl : lv_has ls 5 [(0, .ref ko), (1, .int (nI pi)), (2, .int (nI qi)), (3, .int td), (4, .int 0)] := lv_sub hl [1, 2, 3, 4, 0] rfl
  have q5 : ((nI 0) : Int32) = 0 := by first | rfl | simp []
  have eW : (Kw cy ko ka κ ζ : va_W) = Kw cy ko ka (kLM κ pi qi td 0) ζ := by first | rfl | simp []
  have hP : va_P D vwCl (Kw cy ko ka (kLM κ pi qi td 0) ζ) s.heap := by rw [← eW]; exact hP
  have hD : va_D (va_A (Kw cy ko ka κ ζ) s.heap.size) (Kw cy ko ka (kLM κ pi qi td 0) ζ) := by rw [← eW]; exact hD
  exact L3 ((10 - 0) + 1) 0 (by omega) (by omega) _ _ hP hD hS ls (by rw [q5]; exact lv_sub hl [0, 1, 2, 3, 4] rfl)

set_option maxHeartbeats 4000000 in
set_option maxRecDepth 100000 in
theorem kX1_forget (l : Launch) (D : va_G) (cy : Nat → ClassId) (sz : Nat) (ko : Nat) (ka : Nat → Nat) (κ : Nat → Nat → Int32) (ζ : Nat → Nat → Int64)  : Met l yX1_forget wsX1_forget ({ frames := 0, cells := 0, slots := 0, locals := 0 }) (vg_P D cy [.ref ko] sz (Kw cy ko ka κ ζ)) (vg_Qv (S := Unit) D sz (Kw cy ko ka κ ζ) (fun _ => True) (fun _ => Kw cy ko ka (kFg κ 10) (va_up (va_up (zFg ζ 10) 1 (fun _ => 0)) 2 (fun _ => 0)))) 0 0 (va_A (Kw cy ko ka κ ζ) sz) := by
  refine Met.ofW (cc := cX1_forget) (maxL := 2) (ret := none) (by decide) rfl ?_
  intro p e s m args below meth c s₁ BB hml hv
  obtain ⟨rfl, hsz, hP, hE, hD0⟩ := hv
  have hx := BB.exec
  have hb := BB.bytes
  have hr := BB.returns
  have hts := atoms_spec (ws := wsX1_forget) BB.pre
  have hown : s.vm.findClass RX1 = some m.cls := findClass_of_methodNamed BB.named
  have hlocks := BB.notSynchronized
  subst hsz
  have hD := hD0.self (sz := s.heap.size)
  have hA : ∀ q : Nat, s.heap.size ≤ q → (va_A (Kw cy ko ka κ ζ) s.heap.size) q := fun q h => Or.inr h
  have hS : va_S (va_A (Kw cy ko ka κ ζ) s.heap.size) s.heap s.heap [] := va_S.rf
  have hin_RX1 : ∀ w ∈ u_ws RX1 TX1 7, w ∈ wsX1_forget := by decide +kernel
  have hl := lv_entry ([.ref ko]) (n := 2) (Nat.le_of_ble_eq_true rfl)
  rw [lg_entry_eq]
  generalize (lg_sl ([.ref ko]) ++ List.replicate (2 - (lg_sl ([.ref ko])).length) Slot.unset).toArray = ls at hl ⊢
  have hl : lv_has ls 2 [(0, .ref ko)] := hl
  have L2 : ∀ (fuel : Nat) (o0 : Nat), 10 - o0 < fuel → (o0 ≤ 10) → ∀ (H : Heap) (locs : List Loc), va_P D vwCl (Kw cy ko ka (kFg κ o0) (zFg ζ o0)) H → va_D (va_A (Kw cy ko ka κ ζ) s.heap.size) (Kw cy ko ka (kFg κ o0) (zFg ζ o0)) → va_S (va_A (Kw cy ko ka κ ζ) s.heap.size) s.heap H locs → ∀ ls : Array Slot, lv_has ls 2 [(0, .ref ko), (1, .int (nI o0))] → W p l e (headSpec wsX1_forget ({ frames := 0, cells := 0, slots := 0, locals := 0 })).room s m ([.ref ko] : List Value).toArray below meth c H locs 0 0 (MQ below (vg_Qv (S := Unit) D s.heap.size (Kw cy ko ka κ ζ) (fun _ => True) (fun _ => Kw cy ko ka (kFg κ 10) (va_up (va_up (zFg ζ 10) 1 (fun _ => 0)) 2 (fun _ => 0)))) ([.ref ko] : List Value).toArray s 0 0 (va_A (Kw cy ko ka κ ζ) s.heap.size)) (F0 m 2 ls []) := by
    intro fuel
    induction fuel with
    | zero => intros; omega
    | succ fuel ih =>
      intro o0 hfuel hi H locs hP hD hS ls hl
      refine lv_iload_n hx hb dX1_forget_2 rfl (lv_at hl 1 rfl) ?_
      refine lv_bipush (v := 10) hx hb dX1_forget_3 (by decide) ?_
      refine lv_icmp_ge (tgt := 49) hx hb dX1_forget_5 (by decide) (fun r1 => ?_) (fun r1 => ?_)
      · have c1 : 10 ≤ o0 := (nI_leI (a := 10) (b := o0) (by omega) (by omega)).mp r1
        have e4 : o0 = 10 := by omega
        refine lv_aload_n hx hb dX1_forget_49 rfl (lv_at hl 0 rfl) ?_
        refine lv_lconst (v := 0) hx hb dX1_forget_50 (by decide) ?_
        refine va_put (D := (D)) (ci := 2) (v := .long 0) (ty := .long) (C := RX1) (T := TX1) (N := 7) hx hb hts hin_RX1 tyX1 tyX1_ok nmX1 hown hE.1 hP hD hS 0 rfl rfl 5 (by decide) (hts (.fieldLink RX1 28 "Villagepost$Knowledge" "arrived" "J") (by decide +kernel)) (fun _ h9 => h9) rfl (by decide +kernel) rfl rfl (Nat.le_of_ble_eq_true rfl) dX1_forget_51 (fun H locs hP hD hS => ?_)
        have hP : va_P D vwCl (Kw cy ko ka (kFg κ o0) (va_up (zFg ζ o0) 1 (fun _ => 0))) H := hP
        have hD : va_D (va_A (Kw cy ko ka κ ζ) s.heap.size) (Kw cy ko ka (kFg κ o0) (va_up (zFg ζ o0) 1 (fun _ => 0))) := hD
        refine lv_aload_n hx hb dX1_forget_54 rfl (lv_at hl 0 rfl) ?_
        refine lv_lconst (v := 0) hx hb dX1_forget_55 (by decide) ?_
        refine va_put (D := (D)) (ci := 2) (v := .long 0) (ty := .long) (C := RX1) (T := TX1) (N := 7) hx hb hts hin_RX1 tyX1 tyX1_ok nmX1 hown hE.1 hP hD hS 0 rfl rfl 6 (by decide) (hts (.fieldLink RX1 32 "Villagepost$Knowledge" "marked" "J") (by decide +kernel)) (fun _ h9 => h9) rfl (by decide +kernel) rfl rfl (Nat.le_of_ble_eq_true rfl) dX1_forget_56 (fun H locs hP hD hS => ?_)
        have hP : va_P D vwCl (Kw cy ko ka (kFg κ o0) (va_up (va_up (zFg ζ o0) 1 (fun _ => 0)) 2 (fun _ => 0))) H := hP
        have hD : va_D (va_A (Kw cy ko ka κ ζ) s.heap.size) (Kw cy ko ka (kFg κ o0) (va_up (va_up (zFg ζ o0) 1 (fun _ => 0)) 2 (fun _ => 0))) := hD
        have eW : (Kw cy ko ka (kFg κ o0) (va_up (va_up (zFg ζ o0) 1 (fun _ => 0)) 2 (fun _ => 0)) : va_W) = Kw cy ko ka (kFg κ 10) (va_up (va_up (zFg ζ 10) 1 (fun _ => 0)) 2 (fun _ => 0)) := by rw [e4]
        have hP : va_P D vwCl (Kw cy ko ka (kFg κ 10) (va_up (va_up (zFg ζ 10) 1 (fun _ => 0)) 2 (fun _ => 0))) H := by rw [← eW]; exact hP
        have hD : va_D (va_A (Kw cy ko ka κ ζ) s.heap.size) (Kw cy ko ka (kFg κ 10) (va_up (va_up (zFg ζ 10) 1 (fun _ => 0)) 2 (fun _ => 0))) := by rw [← eW]; exact hD
        exact W.vret hx hb hr (fun t ht hW => ⟨⟨(), rfl, trivial, (by rw [ht]; exact hP), hD⟩, hS.F ht⟩) hS.2.2 dX1_forget_59
      · have c1 : o0 < 10 := Nat.lt_of_not_le (fun q => r1 ((nI_leI (a := 10) (b := o0) (by omega) (by omega)).mpr q))
        refine lv_aload_n hx hb dX1_forget_8 rfl (lv_at hl 0 rfl) ?_
        refine va_get (D := D) (ci := 2) (v := .ref (ka 0)) (C := RX1) (T := TX1) (N := 7) hx hb hts hin_RX1 hown hE.1 hP 0 rfl rfl 0 (by decide) (hts (.fieldLink RX1 9 "Villagepost$Knowledge" "asks" "[I") (by decide +kernel)) (fun _ h9 => h9) rfl dX1_forget_9 ?_
        refine lv_iload_n hx hb dX1_forget_12 rfl (lv_at hl 1 rfl) ?_
        refine lv_iconst (v := 0) hx hb dX1_forget_13 (by decide) ?_
        refine vg_iast hx hb hE.1 hP hD hS 1 0 rfl rfl (f := (kFg κ o0) 0) (j := o0) (by omega) (by decide) dX1_forget_14 (fun H locs hP hD hS => ?_)
        have hP : va_P D vwCl (Kw cy ko ka (va_up (kFg κ o0) 0 (upd ((kFg κ o0) 0) o0 0)) (zFg ζ o0)) H := hP
        have hD : va_D (va_A (Kw cy ko ka κ ζ) s.heap.size) (Kw cy ko ka (va_up (kFg κ o0) 0 (upd ((kFg κ o0) 0) o0 0)) (zFg ζ o0)) := hD
        refine lv_aload_n hx hb dX1_forget_15 rfl (lv_at hl 0 rfl) ?_
        refine va_get (D := D) (ci := 2) (v := .ref (ka 1)) (C := RX1) (T := TX1) (N := 7) hx hb hts hin_RX1 hown hE.1 hP 0 rfl rfl 1 (by decide) (hts (.fieldLink RX1 15 "Villagepost$Knowledge" "follows" "[I") (by decide +kernel)) (fun _ h9 => h9) rfl dX1_forget_16 ?_
        refine lv_iload_n hx hb dX1_forget_19 rfl (lv_at hl 1 rfl) ?_
        refine lv_iconst (v := 0) hx hb dX1_forget_20 (by decide) ?_
        refine vg_iast hx hb hE.1 hP hD hS 2 0 rfl rfl (f := (kFg κ o0) 1) (j := o0) (by omega) (by decide) dX1_forget_21 (fun H locs hP hD hS => ?_)
        have hP : va_P D vwCl (Kw cy ko ka (va_up (va_up (kFg κ o0) 0 (upd ((kFg κ o0) 0) o0 0)) 1 (upd ((kFg κ o0) 1) o0 0)) (zFg ζ o0)) H := hP
        have hD : va_D (va_A (Kw cy ko ka κ ζ) s.heap.size) (Kw cy ko ka (va_up (va_up (kFg κ o0) 0 (upd ((kFg κ o0) 0) o0 0)) 1 (upd ((kFg κ o0) 1) o0 0)) (zFg ζ o0)) := hD
        refine lv_aload_n hx hb dX1_forget_22 rfl (lv_at hl 0 rfl) ?_
        refine va_get (D := D) (ci := 2) (v := .ref (ka 2)) (C := RX1) (T := TX1) (N := 7) hx hb hts hin_RX1 hown hE.1 hP 0 rfl rfl 2 (by decide) (hts (.fieldLink RX1 18 "Villagepost$Knowledge" "blocks" "[I") (by decide +kernel)) (fun _ h9 => h9) rfl dX1_forget_23 ?_
        refine lv_iload_n hx hb dX1_forget_26 rfl (lv_at hl 1 rfl) ?_
        refine lv_iconst (v := 0) hx hb dX1_forget_27 (by decide) ?_
        refine vg_iast hx hb hE.1 hP hD hS 3 0 rfl rfl (f := (kFg κ o0) 2) (j := o0) (by omega) (by decide) dX1_forget_28 (fun H locs hP hD hS => ?_)
        have hP : va_P D vwCl (Kw cy ko ka (va_up (va_up (va_up (kFg κ o0) 0 (upd ((kFg κ o0) 0) o0 0)) 1 (upd ((kFg κ o0) 1) o0 0)) 2 (upd ((kFg κ o0) 2) o0 0)) (zFg ζ o0)) H := hP
        have hD : va_D (va_A (Kw cy ko ka κ ζ) s.heap.size) (Kw cy ko ka (va_up (va_up (va_up (kFg κ o0) 0 (upd ((kFg κ o0) 0) o0 0)) 1 (upd ((kFg κ o0) 1) o0 0)) 2 (upd ((kFg κ o0) 2) o0 0)) (zFg ζ o0)) := hD
        refine lv_aload_n hx hb dX1_forget_29 rfl (lv_at hl 0 rfl) ?_
        refine va_get (D := D) (ci := 2) (v := .ref (ka 3)) (C := RX1) (T := TX1) (N := 7) hx hb hts hin_RX1 hown hE.1 hP 0 rfl rfl 3 (by decide) (hts (.fieldLink RX1 21 "Villagepost$Knowledge" "aliases" "[I") (by decide +kernel)) (fun _ h9 => h9) rfl dX1_forget_30 ?_
        refine lv_iload_n hx hb dX1_forget_33 rfl (lv_at hl 1 rfl) ?_
        refine lv_iconst (v := 0) hx hb dX1_forget_34 (by decide) ?_
        refine vg_iast hx hb hE.1 hP hD hS 4 0 rfl rfl (f := (kFg κ o0) 3) (j := o0) (by omega) (by decide) dX1_forget_35 (fun H locs hP hD hS => ?_)
        have hP : va_P D vwCl (Kw cy ko ka (va_up (va_up (va_up (va_up (kFg κ o0) 0 (upd ((kFg κ o0) 0) o0 0)) 1 (upd ((kFg κ o0) 1) o0 0)) 2 (upd ((kFg κ o0) 2) o0 0)) 3 (upd ((kFg κ o0) 3) o0 0)) (zFg ζ o0)) H := hP
        have hD : va_D (va_A (Kw cy ko ka κ ζ) s.heap.size) (Kw cy ko ka (va_up (va_up (va_up (va_up (kFg κ o0) 0 (upd ((kFg κ o0) 0) o0 0)) 1 (upd ((kFg κ o0) 1) o0 0)) 2 (upd ((kFg κ o0) 2) o0 0)) 3 (upd ((kFg κ o0) 3) o0 0)) (zFg ζ o0)) := hD
        refine lv_aload_n hx hb dX1_forget_36 rfl (lv_at hl 0 rfl) ?_
        refine va_get (D := D) (ci := 2) (v := .ref (ka 4)) (C := RX1) (T := TX1) (N := 7) hx hb hts hin_RX1 hown hE.1 hP 0 rfl rfl 4 (by decide) (hts (.fieldLink RX1 24 "Villagepost$Knowledge" "boosts" "[J") (by decide +kernel)) (fun _ h9 => h9) rfl dX1_forget_37 ?_
        refine lv_iload_n hx hb dX1_forget_40 rfl (lv_at hl 1 rfl) ?_
        refine lv_lconst (v := 0) hx hb dX1_forget_41 (by decide) ?_
        refine vg_last hx hb hE.1 hP hD hS 5 1 rfl rfl (f := (zFg ζ o0) 0) (j := o0) (by omega) (by decide) dX1_forget_42 (fun H locs hP hD hS => ?_)
        have hP : va_P D vwCl (Kw cy ko ka (va_up (va_up (va_up (va_up (kFg κ o0) 0 (upd ((kFg κ o0) 0) o0 0)) 1 (upd ((kFg κ o0) 1) o0 0)) 2 (upd ((kFg κ o0) 2) o0 0)) 3 (upd ((kFg κ o0) 3) o0 0)) (va_up (zFg ζ o0) 0 (vp_updL ((zFg ζ o0) 0) o0 0))) H := hP
        have hD : va_D (va_A (Kw cy ko ka κ ζ) s.heap.size) (Kw cy ko ka (va_up (va_up (va_up (va_up (kFg κ o0) 0 (upd ((kFg κ o0) 0) o0 0)) 1 (upd ((kFg κ o0) 1) o0 0)) 2 (upd ((kFg κ o0) 2) o0 0)) 3 (upd ((kFg κ o0) 3) o0 0)) (va_up (zFg ζ o0) 0 (vp_updL ((zFg ζ o0) 0) o0 0))) := hD
        refine lv_iinc (v := (nI (o0 + 1))) (lv' := [(1, .int (nI (o0 + 1))), (0, .ref ko)]) hx hb dX1_forget_43 hl (k := 1) rfl (by first | rfl | exact nI_add _ _ | decide) (by decide) rfl (fun ls hl => ?_)
        have hl : lv_has ls 2 [(0, .ref ko), (1, .int (nI (o0 + 1)))] := lv_sub hl [1, 0] rfl
        refine lv_goto (tgt := 2) hx hb dX1_forget_46 (by decide) ?_
        have eW : (Kw cy ko ka (va_up (va_up (va_up (va_up (kFg κ o0) 0 (upd ((kFg κ o0) 0) o0 0)) 1 (upd ((kFg κ o0) 1) o0 0)) 2 (upd ((kFg κ o0) 2) o0 0)) 3 (upd ((kFg κ o0) 3) o0 0)) (va_up (zFg ζ o0) 0 (vp_updL ((zFg ζ o0) 0) o0 0)) : va_W) = Kw cy ko ka (kFg κ (o0 + 1)) (zFg ζ (o0 + 1)) := by first | rfl | simp [kFg, zFg]
        have hP : va_P D vwCl (Kw cy ko ka (kFg κ (o0 + 1)) (zFg ζ (o0 + 1))) H := by rw [← eW]; exact hP
        have hD : va_D (va_A (Kw cy ko ka κ ζ) s.heap.size) (Kw cy ko ka (kFg κ (o0 + 1)) (zFg ζ (o0 + 1))) := by rw [← eW]; exact hD
        exact ih (o0 + 1) (by omega) (by omega) _ _ hP hD hS ls (by exact lv_sub hl [0, 1] rfl)
  refine lv_iconst (v := 0) hx hb dX1_forget_0 (by decide) ?_
  refine lv_istore_n (lv' := [(1, .int 0), (0, .ref ko)]) hx hb dX1_forget_1 rfl hl (by decide) rfl (fun ls hl => ?_)
  have hl : lv_has ls 2 [(0, .ref ko), (1, .int 0)] := lv_sub hl [1, 0] rfl
  have q2 : ((nI 0) : Int32) = 0 := by first | rfl | simp []
  have eW : (Kw cy ko ka κ ζ : va_W) = Kw cy ko ka (kFg κ 0) (zFg ζ 0) := by first | rfl | simp []
  have hP : va_P D vwCl (Kw cy ko ka (kFg κ 0) (zFg ζ 0)) s.heap := by rw [← eW]; exact hP
  have hD : va_D (va_A (Kw cy ko ka κ ζ) s.heap.size) (Kw cy ko ka (kFg κ 0) (zFg ζ 0)) := by rw [← eW]; exact hD
  exact L2 ((10 - 0) + 1) 0 (by omega) (by omega) _ _ hP hD hS ls (by rw [q2]; exact lv_sub hl [0, 1] rfl)

set_option maxHeartbeats 4000000 in
set_option maxRecDepth 100000 in
theorem kX1_learn (l : Launch) (D : va_G) (cy : Nat → ClassId) (sz : Nat) (ko : Nat) (ka : Nat → Nat) (κ : Nat → Nat → Int32) (ζ : Nat → Nat → Int64) (ac : Nat) (an : Nat) (ak : Nat) (ap : Nat) (ab : Nat) (td : Int32) (hk : ak < 11) (hp : ap < 10) (hq : ak < 8 → ab < 10) : Met l yX1_learn wsX1_learn ({ frames := 3, cells := 0, slots := 0, locals := 67 }) (vg_P D cy [.ref ko, .ref ac] sz (Kw cy ko ka κ ζ ++ (Aw ac an ak ap ab td))) (vg_Qv (S := Unit) D sz (Kw cy ko ka κ ζ ++ (Aw ac an ak ap ab td)) (fun _ => True) (fun _ => Kw cy ko ka (kLearn κ ak ap ab td) (zLearn ζ ak ap ab) ++ (Aw ac an ak ap ab td))) 0 0 (va_A (Kw cy ko ka κ ζ ++ (Aw ac an ak ap ab td)) sz) := by
  refine Met.ofW (cc := cX1_learn) (maxL := 2) (ret := none) (by decide) rfl ?_
  intro p e s m args below meth c s₁ BB hml hv
  obtain ⟨rfl, hsz, hP, hE, hD0⟩ := hv
  have hx := BB.exec
  have hb := BB.bytes
  have hr := BB.returns
  have hts := atoms_spec (ws := wsX1_learn) BB.pre
  have hown : s.vm.findClass RX1 = some m.cls := findClass_of_methodNamed BB.named
  have hlocks := BB.notSynchronized
  subst hsz
  have hD := hD0.self (sz := s.heap.size)
  have hA : ∀ q : Nat, s.heap.size ≤ q → (va_A (Kw cy ko ka κ ζ ++ (Aw ac an ak ap ab td)) s.heap.size) q := fun q h => Or.inr h
  have hS : va_S (va_A (Kw cy ko ka κ ζ ++ (Aw ac an ak ap ab td)) s.heap.size) s.heap s.heap [] := va_S.rf
  have hin_RX0 : ∀ w ∈ u_ws RX0 TX0 5, w ∈ wsX1_learn := by decide +kernel
  have hin_RX1 : ∀ w ∈ u_ws RX1 TX1 7, w ∈ wsX1_learn := by decide +kernel
  have hl := lv_entry ([.ref ko, .ref ac]) (n := 2) (Nat.le_of_ble_eq_true rfl)
  rw [lg_entry_eq]
  generalize (lg_sl ([.ref ko, .ref ac]) ++ List.replicate (2 - (lg_sl ([.ref ko, .ref ac])).length) Slot.unset).toArray = ls at hl ⊢
  have hl : lv_has ls 2 [(0, .ref ko), (1, .ref ac)] := hl
  refine lv_aload_n hx hb dX1_learn_0 rfl (lv_at hl 1 rfl) ?_
  refine va_get (D := D) (ci := 1) (v := .int (nI ak)) (C := RX0) (T := TX0) (N := 5) hx hb hts hin_RX0 hown hE.1 hP 6 rfl rfl 1 (by decide) (hts (.fieldLink RX1 35 "Villagepost$Act" "kind" "I") (by decide +kernel)) (fun _ h9 => h9) rfl dX1_learn_1 ?_
  have hsw : ak = 0 ∨ ak = 1 ∨ ak = 2 ∨ ak = 3 ∨ ak = 4 ∨ ak = 5 ∨ ak = 6 ∨ ak = 7 ∨ ak = 8 ∨ ak = 9 ∨ ak = 10 := by omega
  rcases hsw with rfl | rfl | rfl | rfl | rfl | rfl | rfl | rfl | rfl | rfl | rfl
  · refine lv_tableIn (x := nI 0) (off := 60) (tgt := 64) hx hb dX1_learn_4 (by decide) (by decide) (by decide) (by decide) ?_
    refine lv_aload_n hx hb dX1_learn_64 rfl (lv_at hl 0 rfl) ?_
    refine lv_aload_n hx hb dX1_learn_65 rfl (lv_at hl 1 rfl) ?_
    refine va_get (D := D) (ci := 1) (v := .int (nI ap)) (C := RX0) (T := TX0) (N := 5) hx hb hts hin_RX0 hown hE.1 hP 6 rfl rfl 2 (by decide) (hts (.fieldLink RX1 41 "Villagepost$Act" "person" "I") (by decide +kernel)) (fun _ h9 => h9) rfl dX1_learn_66 ?_
    refine lv_aload_n hx hb dX1_learn_69 rfl (lv_at hl 1 rfl) ?_
    refine va_get (D := D) (ci := 1) (v := .int (nI ab)) (C := RX0) (T := TX0) (N := 5) hx hb hts hin_RX0 hown hE.1 hP 6 rfl rfl 3 (by decide) (hts (.fieldLink RX1 44 "Villagepost$Act" "about" "I") (by decide +kernel)) (fun _ h9 => h9) rfl dX1_learn_70 ?_
    refine vg_callv (pre := Kw cy ko ka κ ζ ++ (Aw ac an 0 ap ab td)) (RR := []) (wc := Kw cy ko ka κ ζ) (wr := Aw ac an 0 ap ab td) (va_runV (As := [.int (nI ap), .int (nI ab)]) (rest := []) ⟨hx, hb, hml, hown, hts⟩ (kX1_learnFollow l D cy s.heap.size ko ka κ ζ ap ab (by omega) (by omega)) (cwV 2 hts gX1_learn_X1_learnFollow rfl rfl rfl (by decide +kernel) ⟨Nat.le_of_ble_eq_true rfl, Nat.le_of_ble_eq_true rfl⟩) (vg_P.preV hE hP 0 rfl rfl (va_P.sub (ws' := Kw cy ko ka κ ζ) hP [0, 1, 2, 3, 4, 5] rfl) (va_D.sub (ws' := Kw cy ko ka κ ζ) hD [0, 1, 2, 3, 4, 5] (by decide) rfl)) rfl rfl hl.1 rfl (lv_room (Nat.le_of_ble_eq_true rfl)) dX1_learn_73 ⟨Nat.le_of_ble_eq_true rfl, Nat.le_of_ble_eq_true rfl⟩) hP hD hS hA [0, 1, 2, 3, 4, 5] [6] rfl rfl (by decide) (by decide) (fun _ H locs hrv hP hD hS => ?_)
    have hP : va_P D vwCl (Kw cy ko ka (kLF κ ap ab) ζ ++ (Aw ac an 0 ap ab td)) H := hP
    have hD : va_D (va_A (Kw cy ko ka κ ζ ++ (Aw ac an 0 ap ab td)) s.heap.size) (Kw cy ko ka (kLF κ ap ab) ζ ++ (Aw ac an 0 ap ab td)) := hD
    refine lv_goto (tgt := 313) hx hb dX1_learn_76 (by decide) ?_
    have eW : (Kw cy ko ka (kLF κ ap ab) ζ ++ (Aw ac an 0 ap ab td) : va_W) = Kw cy ko ka (kLearn κ 0 ap ab td) (zLearn ζ 0 ap ab) ++ (Aw ac an 0 ap ab td) := by simp [kLearn, zLearn, kBL, kPart_2]
    have hP : va_P D vwCl (Kw cy ko ka (kLearn κ 0 ap ab td) (zLearn ζ 0 ap ab) ++ (Aw ac an 0 ap ab td)) H := by rw [← eW]; exact hP
    have hD : va_D (va_A (Kw cy ko ka κ ζ ++ (Aw ac an 0 ap ab td)) s.heap.size) (Kw cy ko ka (kLearn κ 0 ap ab td) (zLearn ζ 0 ap ab) ++ (Aw ac an 0 ap ab td)) := by rw [← eW]; exact hD
    exact W.vret hx hb hr (fun t ht hW => ⟨⟨(), rfl, trivial, (by rw [ht]; exact hP), hD⟩, hS.F ht⟩) hS.2.2 dX1_learn_313
  · refine lv_tableIn (x := nI 1) (off := 75) (tgt := 79) hx hb dX1_learn_4 (by decide) (by decide) (by decide) (by decide) ?_
    refine lv_aload_n hx hb dX1_learn_79 rfl (lv_at hl 0 rfl) ?_
    refine lv_aload_n hx hb dX1_learn_80 rfl (lv_at hl 1 rfl) ?_
    refine va_get (D := D) (ci := 1) (v := .int (nI ap)) (C := RX0) (T := TX0) (N := 5) hx hb hts hin_RX0 hown hE.1 hP 6 rfl rfl 2 (by decide) (hts (.fieldLink RX1 41 "Villagepost$Act" "person" "I") (by decide +kernel)) (fun _ h9 => h9) rfl dX1_learn_81 ?_
    refine lv_aload_n hx hb dX1_learn_84 rfl (lv_at hl 1 rfl) ?_
    refine va_get (D := D) (ci := 1) (v := .int (nI ab)) (C := RX0) (T := TX0) (N := 5) hx hb hts hin_RX0 hown hE.1 hP 6 rfl rfl 3 (by decide) (hts (.fieldLink RX1 44 "Villagepost$Act" "about" "I") (by decide +kernel)) (fun _ h9 => h9) rfl dX1_learn_85 ?_
    refine vg_callv (pre := Kw cy ko ka κ ζ ++ (Aw ac an 1 ap ab td)) (RR := []) (wc := Kw cy ko ka κ ζ) (wr := Aw ac an 1 ap ab td) (va_runV (As := [.int (nI ap), .int (nI ab)]) (rest := []) ⟨hx, hb, hml, hown, hts⟩ (kX1_learnAccept l D cy s.heap.size ko ka κ ζ ap ab (by omega) (by omega)) (cwV 2 hts gX1_learn_X1_learnAccept rfl rfl rfl (by decide +kernel) ⟨Nat.le_of_ble_eq_true rfl, Nat.le_of_ble_eq_true rfl⟩) (vg_P.preV hE hP 0 rfl rfl (va_P.sub (ws' := Kw cy ko ka κ ζ) hP [0, 1, 2, 3, 4, 5] rfl) (va_D.sub (ws' := Kw cy ko ka κ ζ) hD [0, 1, 2, 3, 4, 5] (by decide) rfl)) rfl rfl hl.1 rfl (lv_room (Nat.le_of_ble_eq_true rfl)) dX1_learn_88 ⟨Nat.le_of_ble_eq_true rfl, Nat.le_of_ble_eq_true rfl⟩) hP hD hS hA [0, 1, 2, 3, 4, 5] [6] rfl rfl (by decide) (by decide) (fun _ H locs hrv hP hD hS => ?_)
    have hP : va_P D vwCl (Kw cy ko ka (kLA κ ap ab) ζ ++ (Aw ac an 1 ap ab td)) H := hP
    have hD : va_D (va_A (Kw cy ko ka κ ζ ++ (Aw ac an 1 ap ab td)) s.heap.size) (Kw cy ko ka (kLA κ ap ab) ζ ++ (Aw ac an 1 ap ab td)) := hD
    refine lv_goto (tgt := 313) hx hb dX1_learn_91 (by decide) ?_
    have eW : (Kw cy ko ka (kLA κ ap ab) ζ ++ (Aw ac an 1 ap ab td) : va_W) = Kw cy ko ka (kLearn κ 1 ap ab td) (zLearn ζ 1 ap ab) ++ (Aw ac an 1 ap ab td) := by simp [kLearn, zLearn, kBL, kPart_2]
    have hP : va_P D vwCl (Kw cy ko ka (kLearn κ 1 ap ab td) (zLearn ζ 1 ap ab) ++ (Aw ac an 1 ap ab td)) H := by rw [← eW]; exact hP
    have hD : va_D (va_A (Kw cy ko ka κ ζ ++ (Aw ac an 1 ap ab td)) s.heap.size) (Kw cy ko ka (kLearn κ 1 ap ab td) (zLearn ζ 1 ap ab) ++ (Aw ac an 1 ap ab td)) := by rw [← eW]; exact hD
    exact W.vret hx hb hr (fun t ht hW => ⟨⟨(), rfl, trivial, (by rw [ht]; exact hP), hD⟩, hS.F ht⟩) hS.2.2 dX1_learn_313
  · refine lv_tableIn (x := nI 2) (off := 90) (tgt := 94) hx hb dX1_learn_4 (by decide) (by decide) (by decide) (by decide) ?_
    refine lv_aload_n hx hb dX1_learn_94 rfl (lv_at hl 0 rfl) ?_
    refine va_get (D := D) (ci := 2) (v := .ref (ka 0)) (C := RX1) (T := TX1) (N := 7) hx hb hts hin_RX1 hown hE.1 hP 0 rfl rfl 0 (by decide) (hts (.fieldLink RX1 9 "Villagepost$Knowledge" "asks" "[I") (by decide +kernel)) (fun _ h9 => h9) rfl dX1_learn_95 ?_
    refine lv_aload_n hx hb dX1_learn_98 rfl (lv_at hl 1 rfl) ?_
    refine va_get (D := D) (ci := 1) (v := .int (nI ab)) (C := RX0) (T := TX0) (N := 5) hx hb hts hin_RX0 hown hE.1 hP 6 rfl rfl 3 (by decide) (hts (.fieldLink RX1 44 "Villagepost$Act" "about" "I") (by decide +kernel)) (fun _ h9 => h9) rfl dX1_learn_99 ?_
    refine lv_dup2_11 hx hb dX1_learn_102 rfl rfl ?_
    refine vg_iald hx hb hE.1 hP 1 0 rfl rfl (f := κ 0) (j := ab) (by omega) (by decide) dX1_learn_103 ?_
    refine lv_aload_n hx hb dX1_learn_104 rfl (lv_at hl 1 rfl) ?_
    refine va_get (D := D) (ci := 1) (v := .int (nI ap)) (C := RX0) (T := TX0) (N := 5) hx hb hts hin_RX0 hown hE.1 hP 6 rfl rfl 2 (by decide) (hts (.fieldLink RX1 41 "Villagepost$Act" "person" "I") (by decide +kernel)) (fun _ h9 => h9) rfl dX1_learn_105 ?_
    refine vg_calliP (va_runSN (As := [.int (nI ap)]) (rest := [.int ((κ 0) ab), .int (nI ab), .ref (ka 0)]) ⟨hx, hb, hml, hown, hts⟩ (kX4_bit l D cy s.heap.size ap) ⟨va_cnB 1 hts gX1_learn_X4_bit_n54 rfl rfl rfl (hE.2 (.methodLinkNest RX1 54 yX4_bit "Villagepost") (by decide +kernel)) (hts (.initialized RX4) (by decide +kernel)) (by decide +kernel) ⟨Nat.le_of_ble_eq_true rfl, Nat.le_of_ble_eq_true rfl⟩, hts (.static yX4_bit) (by decide +kernel), trivial⟩ (vg_P.preS hE vg_P0 (A := fun _ => True) vg_D0) rfl rfl hl.1 rfl (lv_room (Nat.le_of_ble_eq_true rfl)) dX1_learn_108 ⟨Nat.le_of_ble_eq_true rfl, Nat.le_of_ble_eq_true rfl⟩) hP hD hS hA (fun r _ H locs hr hP hD hS => ?_)
    subst hr
    refine lv_iconst (v := (-1)) hx hb dX1_learn_111 (by decide) ?_
    refine lv_ixor hx hb dX1_learn_112 ?_
    refine lv_iand hx hb dX1_learn_113 ?_
    refine vg_iast hx hb hE.1 hP hD hS 1 0 rfl rfl (f := κ 0) (j := ab) (by omega) (by decide) dX1_learn_114 (fun H locs hP hD hS => ?_)
    have hP : va_P D vwCl (Kw cy ko ka (va_up κ 0 (upd (κ 0) ab (((κ 0) ab) &&& ((kBit ap) ^^^ (-1))))) ζ ++ (Aw ac an 2 ap ab td)) H := hP
    have hD : va_D (va_A (Kw cy ko ka κ ζ ++ (Aw ac an 2 ap ab td)) s.heap.size) (Kw cy ko ka (va_up κ 0 (upd (κ 0) ab (((κ 0) ab) &&& ((kBit ap) ^^^ (-1))))) ζ ++ (Aw ac an 2 ap ab td)) := hD
    refine lv_goto (tgt := 313) hx hb dX1_learn_115 (by decide) ?_
    have eW : (Kw cy ko ka (va_up κ 0 (upd (κ 0) ab (((κ 0) ab) &&& ((kBit ap) ^^^ (-1))))) ζ ++ (Aw ac an 2 ap ab td) : va_W) = Kw cy ko ka (kLearn κ 2 ap ab td) (zLearn ζ 2 ap ab) ++ (Aw ac an 2 ap ab td) := by simp [kLearn, zLearn, kBL, kPart_2]
    have hP : va_P D vwCl (Kw cy ko ka (kLearn κ 2 ap ab td) (zLearn ζ 2 ap ab) ++ (Aw ac an 2 ap ab td)) H := by rw [← eW]; exact hP
    have hD : va_D (va_A (Kw cy ko ka κ ζ ++ (Aw ac an 2 ap ab td)) s.heap.size) (Kw cy ko ka (kLearn κ 2 ap ab td) (zLearn ζ 2 ap ab) ++ (Aw ac an 2 ap ab td)) := by rw [← eW]; exact hD
    exact W.vret hx hb hr (fun t ht hW => ⟨⟨(), rfl, trivial, (by rw [ht]; exact hP), hD⟩, hS.F ht⟩) hS.2.2 dX1_learn_313
  · refine lv_tableIn (x := nI 3) (off := 114) (tgt := 118) hx hb dX1_learn_4 (by decide) (by decide) (by decide) (by decide) ?_
    refine lv_aload_n hx hb dX1_learn_118 rfl (lv_at hl 0 rfl) ?_
    refine lv_aload_n hx hb dX1_learn_119 rfl (lv_at hl 1 rfl) ?_
    refine va_get (D := D) (ci := 1) (v := .int (nI ap)) (C := RX0) (T := TX0) (N := 5) hx hb hts hin_RX0 hown hE.1 hP 6 rfl rfl 2 (by decide) (hts (.fieldLink RX1 41 "Villagepost$Act" "person" "I") (by decide +kernel)) (fun _ h9 => h9) rfl dX1_learn_120 ?_
    refine lv_aload_n hx hb dX1_learn_123 rfl (lv_at hl 1 rfl) ?_
    refine va_get (D := D) (ci := 1) (v := .int (nI ab)) (C := RX0) (T := TX0) (N := 5) hx hb hts hin_RX0 hown hE.1 hP 6 rfl rfl 3 (by decide) (hts (.fieldLink RX1 44 "Villagepost$Act" "about" "I") (by decide +kernel)) (fun _ h9 => h9) rfl dX1_learn_124 ?_
    refine vg_callv (pre := Kw cy ko ka κ ζ ++ (Aw ac an 3 ap ab td)) (RR := []) (wc := Kw cy ko ka κ ζ) (wr := Aw ac an 3 ap ab td) (va_runV (As := [.int (nI ap), .int (nI ab)]) (rest := []) ⟨hx, hb, hml, hown, hts⟩ (kX1_part l D cy s.heap.size ko ka κ ζ ap ab (by omega)) (cwV 2 hts gX1_learn_X1_part rfl rfl rfl (by decide +kernel) ⟨Nat.le_of_ble_eq_true rfl, Nat.le_of_ble_eq_true rfl⟩) (vg_P.preV hE hP 0 rfl rfl (va_P.sub (ws' := Kw cy ko ka κ ζ) hP [0, 1, 2, 3, 4, 5] rfl) (va_D.sub (ws' := Kw cy ko ka κ ζ) hD [0, 1, 2, 3, 4, 5] (by decide) rfl)) rfl rfl hl.1 rfl (lv_room (Nat.le_of_ble_eq_true rfl)) dX1_learn_127 ⟨Nat.le_of_ble_eq_true rfl, Nat.le_of_ble_eq_true rfl⟩) hP hD hS hA [0, 1, 2, 3, 4, 5] [6] rfl rfl (by decide) (by decide) (fun _ H locs hrv hP hD hS => ?_)
    have hP : va_P D vwCl (Kw cy ko ka (kPart κ ap ab) ζ ++ (Aw ac an 3 ap ab td)) H := hP
    have hD : va_D (va_A (Kw cy ko ka κ ζ ++ (Aw ac an 3 ap ab td)) s.heap.size) (Kw cy ko ka (kPart κ ap ab) ζ ++ (Aw ac an 3 ap ab td)) := hD
    refine lv_goto (tgt := 313) hx hb dX1_learn_130 (by decide) ?_
    have eW : (Kw cy ko ka (kPart κ ap ab) ζ ++ (Aw ac an 3 ap ab td) : va_W) = Kw cy ko ka (kLearn κ 3 ap ab td) (zLearn ζ 3 ap ab) ++ (Aw ac an 3 ap ab td) := by simp [kLearn, zLearn, kBL, kPart_2]
    have hP : va_P D vwCl (Kw cy ko ka (kLearn κ 3 ap ab td) (zLearn ζ 3 ap ab) ++ (Aw ac an 3 ap ab td)) H := by rw [← eW]; exact hP
    have hD : va_D (va_A (Kw cy ko ka κ ζ ++ (Aw ac an 3 ap ab td)) s.heap.size) (Kw cy ko ka (kLearn κ 3 ap ab td) (zLearn ζ 3 ap ab) ++ (Aw ac an 3 ap ab td)) := by rw [← eW]; exact hD
    exact W.vret hx hb hr (fun t ht hW => ⟨⟨(), rfl, trivial, (by rw [ht]; exact hP), hD⟩, hS.F ht⟩) hS.2.2 dX1_learn_313
  · refine lv_tableIn (x := nI 4) (off := 129) (tgt := 133) hx hb dX1_learn_4 (by decide) (by decide) (by decide) (by decide) ?_
    refine lv_aload_n hx hb dX1_learn_133 rfl (lv_at hl 0 rfl) ?_
    refine lv_aload_n hx hb dX1_learn_134 rfl (lv_at hl 1 rfl) ?_
    refine va_get (D := D) (ci := 1) (v := .int (nI ap)) (C := RX0) (T := TX0) (N := 5) hx hb hts hin_RX0 hown hE.1 hP 6 rfl rfl 2 (by decide) (hts (.fieldLink RX1 41 "Villagepost$Act" "person" "I") (by decide +kernel)) (fun _ h9 => h9) rfl dX1_learn_135 ?_
    refine lv_aload_n hx hb dX1_learn_138 rfl (lv_at hl 1 rfl) ?_
    refine va_get (D := D) (ci := 1) (v := .int (nI ab)) (C := RX0) (T := TX0) (N := 5) hx hb hts hin_RX0 hown hE.1 hP 6 rfl rfl 3 (by decide) (hts (.fieldLink RX1 44 "Villagepost$Act" "about" "I") (by decide +kernel)) (fun _ h9 => h9) rfl dX1_learn_139 ?_
    refine vg_callv (pre := Kw cy ko ka κ ζ ++ (Aw ac an 4 ap ab td)) (RR := []) (wc := Kw cy ko ka κ ζ) (wr := Aw ac an 4 ap ab td) (va_runV (As := [.int (nI ap), .int (nI ab)]) (rest := []) ⟨hx, hb, hml, hown, hts⟩ (kX1_part l D cy s.heap.size ko ka κ ζ ap ab (by omega)) (cwV 2 hts gX1_learn_X1_part rfl rfl rfl (by decide +kernel) ⟨Nat.le_of_ble_eq_true rfl, Nat.le_of_ble_eq_true rfl⟩) (vg_P.preV hE hP 0 rfl rfl (va_P.sub (ws' := Kw cy ko ka κ ζ) hP [0, 1, 2, 3, 4, 5] rfl) (va_D.sub (ws' := Kw cy ko ka κ ζ) hD [0, 1, 2, 3, 4, 5] (by decide) rfl)) rfl rfl hl.1 rfl (lv_room (Nat.le_of_ble_eq_true rfl)) dX1_learn_142 ⟨Nat.le_of_ble_eq_true rfl, Nat.le_of_ble_eq_true rfl⟩) hP hD hS hA [0, 1, 2, 3, 4, 5] [6] rfl rfl (by decide) (by decide) (fun _ H locs hrv hP hD hS => ?_)
    have hP : va_P D vwCl (Kw cy ko ka (kPart κ ap ab) ζ ++ (Aw ac an 4 ap ab td)) H := hP
    have hD : va_D (va_A (Kw cy ko ka κ ζ ++ (Aw ac an 4 ap ab td)) s.heap.size) (Kw cy ko ka (kPart κ ap ab) ζ ++ (Aw ac an 4 ap ab td)) := hD
    refine lv_aload_n hx hb dX1_learn_145 rfl (lv_at hl 0 rfl) ?_
    refine lv_aload_n hx hb dX1_learn_146 rfl (lv_at hl 1 rfl) ?_
    refine va_get (D := D) (ci := 1) (v := .int (nI ab)) (C := RX0) (T := TX0) (N := 5) hx hb hts hin_RX0 hown hE.1 hP 6 rfl rfl 3 (by decide) (hts (.fieldLink RX1 44 "Villagepost$Act" "about" "I") (by decide +kernel)) (fun _ h9 => h9) rfl dX1_learn_147 ?_
    refine lv_aload_n hx hb dX1_learn_150 rfl (lv_at hl 1 rfl) ?_
    refine va_get (D := D) (ci := 1) (v := .int (nI ap)) (C := RX0) (T := TX0) (N := 5) hx hb hts hin_RX0 hown hE.1 hP 6 rfl rfl 2 (by decide) (hts (.fieldLink RX1 41 "Villagepost$Act" "person" "I") (by decide +kernel)) (fun _ h9 => h9) rfl dX1_learn_151 ?_
    refine vg_callv (pre := Kw cy ko ka (kPart κ ap ab) ζ ++ (Aw ac an 4 ap ab td)) (RR := []) (wc := Kw cy ko ka (kPart κ ap ab) ζ) (wr := Aw ac an 4 ap ab td) (va_runV (As := [.int (nI ab), .int (nI ap)]) (rest := []) ⟨hx, hb, hml, hown, hts⟩ (kX1_part l D cy H.size ko ka (kPart κ ap ab) ζ ab ap (by omega)) (cwV 2 hts gX1_learn_X1_part rfl rfl rfl (by decide +kernel) ⟨Nat.le_of_ble_eq_true rfl, Nat.le_of_ble_eq_true rfl⟩) (vg_P.preV hE hP 0 rfl rfl (va_P.sub (ws' := Kw cy ko ka (kPart κ ap ab) ζ) hP [0, 1, 2, 3, 4, 5] rfl) (va_D.sub (ws' := Kw cy ko ka (kPart κ ap ab) ζ) hD [0, 1, 2, 3, 4, 5] (by decide) rfl)) rfl rfl hl.1 rfl (lv_room (Nat.le_of_ble_eq_true rfl)) dX1_learn_154 ⟨Nat.le_of_ble_eq_true rfl, Nat.le_of_ble_eq_true rfl⟩) hP hD hS hA [0, 1, 2, 3, 4, 5] [6] rfl rfl (by decide) (by decide) (fun _ H locs hrv hP hD hS => ?_)
    have hP : va_P D vwCl (Kw cy ko ka (kPart (kPart κ ap ab) ab ap) ζ ++ (Aw ac an 4 ap ab td)) H := hP
    have hD : va_D (va_A (Kw cy ko ka κ ζ ++ (Aw ac an 4 ap ab td)) s.heap.size) (Kw cy ko ka (kPart (kPart κ ap ab) ab ap) ζ ++ (Aw ac an 4 ap ab td)) := hD
    refine lv_aload_n hx hb dX1_learn_157 rfl (lv_at hl 0 rfl) ?_
    refine va_get (D := D) (ci := 2) (v := .ref (ka 2)) (C := RX1) (T := TX1) (N := 7) hx hb hts hin_RX1 hown hE.1 hP 0 rfl rfl 2 (by decide) (hts (.fieldLink RX1 18 "Villagepost$Knowledge" "blocks" "[I") (by decide +kernel)) (fun _ h9 => h9) rfl dX1_learn_158 ?_
    refine lv_aload_n hx hb dX1_learn_161 rfl (lv_at hl 1 rfl) ?_
    refine va_get (D := D) (ci := 1) (v := .int (nI ap)) (C := RX0) (T := TX0) (N := 5) hx hb hts hin_RX0 hown hE.1 hP 6 rfl rfl 2 (by decide) (hts (.fieldLink RX1 41 "Villagepost$Act" "person" "I") (by decide +kernel)) (fun _ h9 => h9) rfl dX1_learn_162 ?_
    refine lv_dup2_11 hx hb dX1_learn_165 rfl rfl ?_
    refine vg_iald hx hb hE.1 hP 3 0 rfl rfl (f := (kPart (kPart κ ap ab) ab ap) 2) (j := ap) (by omega) (by decide) dX1_learn_166 ?_
    refine lv_aload_n hx hb dX1_learn_167 rfl (lv_at hl 1 rfl) ?_
    refine va_get (D := D) (ci := 1) (v := .int (nI ab)) (C := RX0) (T := TX0) (N := 5) hx hb hts hin_RX0 hown hE.1 hP 6 rfl rfl 3 (by decide) (hts (.fieldLink RX1 44 "Villagepost$Act" "about" "I") (by decide +kernel)) (fun _ h9 => h9) rfl dX1_learn_168 ?_
    refine vg_calliP (va_runSN (As := [.int (nI ab)]) (rest := [.int (((kPart (kPart κ ap ab) ab ap) 2) ap), .int (nI ap), .ref (ka 2)]) ⟨hx, hb, hml, hown, hts⟩ (kX4_bit l D cy H.size ab) ⟨va_cnB 1 hts gX1_learn_X4_bit_n54 rfl rfl rfl (hE.2 (.methodLinkNest RX1 54 yX4_bit "Villagepost") (by decide +kernel)) (hts (.initialized RX4) (by decide +kernel)) (by decide +kernel) ⟨Nat.le_of_ble_eq_true rfl, Nat.le_of_ble_eq_true rfl⟩, hts (.static yX4_bit) (by decide +kernel), trivial⟩ (vg_P.preS hE vg_P0 (A := fun _ => True) vg_D0) rfl rfl hl.1 rfl (lv_room (Nat.le_of_ble_eq_true rfl)) dX1_learn_171 ⟨Nat.le_of_ble_eq_true rfl, Nat.le_of_ble_eq_true rfl⟩) hP hD hS hA (fun r _ H locs hr hP hD hS => ?_)
    subst hr
    refine lv_ior hx hb dX1_learn_174 ?_
    refine vg_iast hx hb hE.1 hP hD hS 3 0 rfl rfl (f := (kPart (kPart κ ap ab) ab ap) 2) (j := ap) (by omega) (by decide) dX1_learn_175 (fun H locs hP hD hS => ?_)
    have hP : va_P D vwCl (Kw cy ko ka (va_up (kPart (kPart κ ap ab) ab ap) 2 (upd ((kPart (kPart κ ap ab) ab ap) 2) ap ((((kPart (kPart κ ap ab) ab ap) 2) ap) ||| (kBit ab)))) ζ ++ (Aw ac an 4 ap ab td)) H := hP
    have hD : va_D (va_A (Kw cy ko ka κ ζ ++ (Aw ac an 4 ap ab td)) s.heap.size) (Kw cy ko ka (va_up (kPart (kPart κ ap ab) ab ap) 2 (upd ((kPart (kPart κ ap ab) ab ap) 2) ap ((((kPart (kPart κ ap ab) ab ap) 2) ap) ||| (kBit ab)))) ζ ++ (Aw ac an 4 ap ab td)) := hD
    refine lv_goto (tgt := 313) hx hb dX1_learn_176 (by decide) ?_
    have eW : (Kw cy ko ka (va_up (kPart (kPart κ ap ab) ab ap) 2 (upd ((kPart (kPart κ ap ab) ab ap) 2) ap ((((kPart (kPart κ ap ab) ab ap) 2) ap) ||| (kBit ab)))) ζ ++ (Aw ac an 4 ap ab td) : va_W) = Kw cy ko ka (kLearn κ 4 ap ab td) (zLearn ζ 4 ap ab) ++ (Aw ac an 4 ap ab td) := by simp [kLearn, zLearn, kBL, kPart_2]
    have hP : va_P D vwCl (Kw cy ko ka (kLearn κ 4 ap ab td) (zLearn ζ 4 ap ab) ++ (Aw ac an 4 ap ab td)) H := by rw [← eW]; exact hP
    have hD : va_D (va_A (Kw cy ko ka κ ζ ++ (Aw ac an 4 ap ab td)) s.heap.size) (Kw cy ko ka (kLearn κ 4 ap ab td) (zLearn ζ 4 ap ab) ++ (Aw ac an 4 ap ab td)) := by rw [← eW]; exact hD
    exact W.vret hx hb hr (fun t ht hW => ⟨⟨(), rfl, trivial, (by rw [ht]; exact hP), hD⟩, hS.F ht⟩) hS.2.2 dX1_learn_313
  · refine lv_tableIn (x := nI 5) (off := 175) (tgt := 179) hx hb dX1_learn_4 (by decide) (by decide) (by decide) (by decide) ?_
    refine lv_aload_n hx hb dX1_learn_179 rfl (lv_at hl 0 rfl) ?_
    refine va_get (D := D) (ci := 2) (v := .ref (ka 2)) (C := RX1) (T := TX1) (N := 7) hx hb hts hin_RX1 hown hE.1 hP 0 rfl rfl 2 (by decide) (hts (.fieldLink RX1 18 "Villagepost$Knowledge" "blocks" "[I") (by decide +kernel)) (fun _ h9 => h9) rfl dX1_learn_180 ?_
    refine lv_aload_n hx hb dX1_learn_183 rfl (lv_at hl 1 rfl) ?_
    refine va_get (D := D) (ci := 1) (v := .int (nI ap)) (C := RX0) (T := TX0) (N := 5) hx hb hts hin_RX0 hown hE.1 hP 6 rfl rfl 2 (by decide) (hts (.fieldLink RX1 41 "Villagepost$Act" "person" "I") (by decide +kernel)) (fun _ h9 => h9) rfl dX1_learn_184 ?_
    refine lv_dup2_11 hx hb dX1_learn_187 rfl rfl ?_
    refine vg_iald hx hb hE.1 hP 3 0 rfl rfl (f := κ 2) (j := ap) (by omega) (by decide) dX1_learn_188 ?_
    refine lv_aload_n hx hb dX1_learn_189 rfl (lv_at hl 1 rfl) ?_
    refine va_get (D := D) (ci := 1) (v := .int (nI ab)) (C := RX0) (T := TX0) (N := 5) hx hb hts hin_RX0 hown hE.1 hP 6 rfl rfl 3 (by decide) (hts (.fieldLink RX1 44 "Villagepost$Act" "about" "I") (by decide +kernel)) (fun _ h9 => h9) rfl dX1_learn_190 ?_
    refine vg_calliP (va_runSN (As := [.int (nI ab)]) (rest := [.int ((κ 2) ap), .int (nI ap), .ref (ka 2)]) ⟨hx, hb, hml, hown, hts⟩ (kX4_bit l D cy s.heap.size ab) ⟨va_cnB 1 hts gX1_learn_X4_bit_n54 rfl rfl rfl (hE.2 (.methodLinkNest RX1 54 yX4_bit "Villagepost") (by decide +kernel)) (hts (.initialized RX4) (by decide +kernel)) (by decide +kernel) ⟨Nat.le_of_ble_eq_true rfl, Nat.le_of_ble_eq_true rfl⟩, hts (.static yX4_bit) (by decide +kernel), trivial⟩ (vg_P.preS hE vg_P0 (A := fun _ => True) vg_D0) rfl rfl hl.1 rfl (lv_room (Nat.le_of_ble_eq_true rfl)) dX1_learn_193 ⟨Nat.le_of_ble_eq_true rfl, Nat.le_of_ble_eq_true rfl⟩) hP hD hS hA (fun r _ H locs hr hP hD hS => ?_)
    subst hr
    refine lv_iconst (v := (-1)) hx hb dX1_learn_196 (by decide) ?_
    refine lv_ixor hx hb dX1_learn_197 ?_
    refine lv_iand hx hb dX1_learn_198 ?_
    refine vg_iast hx hb hE.1 hP hD hS 3 0 rfl rfl (f := κ 2) (j := ap) (by omega) (by decide) dX1_learn_199 (fun H locs hP hD hS => ?_)
    have hP : va_P D vwCl (Kw cy ko ka (va_up κ 2 (upd (κ 2) ap (((κ 2) ap) &&& ((kBit ab) ^^^ (-1))))) ζ ++ (Aw ac an 5 ap ab td)) H := hP
    have hD : va_D (va_A (Kw cy ko ka κ ζ ++ (Aw ac an 5 ap ab td)) s.heap.size) (Kw cy ko ka (va_up κ 2 (upd (κ 2) ap (((κ 2) ap) &&& ((kBit ab) ^^^ (-1))))) ζ ++ (Aw ac an 5 ap ab td)) := hD
    refine lv_goto (tgt := 313) hx hb dX1_learn_200 (by decide) ?_
    have eW : (Kw cy ko ka (va_up κ 2 (upd (κ 2) ap (((κ 2) ap) &&& ((kBit ab) ^^^ (-1))))) ζ ++ (Aw ac an 5 ap ab td) : va_W) = Kw cy ko ka (kLearn κ 5 ap ab td) (zLearn ζ 5 ap ab) ++ (Aw ac an 5 ap ab td) := by simp [kLearn, zLearn, kBL, kPart_2]
    have hP : va_P D vwCl (Kw cy ko ka (kLearn κ 5 ap ab td) (zLearn ζ 5 ap ab) ++ (Aw ac an 5 ap ab td)) H := by rw [← eW]; exact hP
    have hD : va_D (va_A (Kw cy ko ka κ ζ ++ (Aw ac an 5 ap ab td)) s.heap.size) (Kw cy ko ka (kLearn κ 5 ap ab td) (zLearn ζ 5 ap ab) ++ (Aw ac an 5 ap ab td)) := by rw [← eW]; exact hD
    exact W.vret hx hb hr (fun t ht hW => ⟨⟨(), rfl, trivial, (by rw [ht]; exact hP), hD⟩, hS.F ht⟩) hS.2.2 dX1_learn_313
  · refine lv_tableIn (x := nI 6) (off := 199) (tgt := 203) hx hb dX1_learn_4 (by decide) (by decide) (by decide) (by decide) ?_
    refine lv_aload_n hx hb dX1_learn_203 rfl (lv_at hl 0 rfl) ?_
    refine va_get (D := D) (ci := 2) (v := .ref (ka 3)) (C := RX1) (T := TX1) (N := 7) hx hb hts hin_RX1 hown hE.1 hP 0 rfl rfl 3 (by decide) (hts (.fieldLink RX1 21 "Villagepost$Knowledge" "aliases" "[I") (by decide +kernel)) (fun _ h9 => h9) rfl dX1_learn_204 ?_
    refine lv_aload_n hx hb dX1_learn_207 rfl (lv_at hl 1 rfl) ?_
    refine va_get (D := D) (ci := 1) (v := .int (nI ap)) (C := RX0) (T := TX0) (N := 5) hx hb hts hin_RX0 hown hE.1 hP 6 rfl rfl 2 (by decide) (hts (.fieldLink RX1 41 "Villagepost$Act" "person" "I") (by decide +kernel)) (fun _ h9 => h9) rfl dX1_learn_208 ?_
    refine lv_aload_n hx hb dX1_learn_211 rfl (lv_at hl 1 rfl) ?_
    refine va_get (D := D) (ci := 1) (v := .int (nI ab)) (C := RX0) (T := TX0) (N := 5) hx hb hts hin_RX0 hown hE.1 hP 6 rfl rfl 3 (by decide) (hts (.fieldLink RX1 44 "Villagepost$Act" "about" "I") (by decide +kernel)) (fun _ h9 => h9) rfl dX1_learn_212 ?_
    refine vg_calliP (va_runSN (As := [.int (nI ab)]) (rest := [.int (nI ap), .ref (ka 3)]) ⟨hx, hb, hml, hown, hts⟩ (kX4_bit l D cy s.heap.size ab) ⟨va_cnB 1 hts gX1_learn_X4_bit_n54 rfl rfl rfl (hE.2 (.methodLinkNest RX1 54 yX4_bit "Villagepost") (by decide +kernel)) (hts (.initialized RX4) (by decide +kernel)) (by decide +kernel) ⟨Nat.le_of_ble_eq_true rfl, Nat.le_of_ble_eq_true rfl⟩, hts (.static yX4_bit) (by decide +kernel), trivial⟩ (vg_P.preS hE vg_P0 (A := fun _ => True) vg_D0) rfl rfl hl.1 rfl (lv_room (Nat.le_of_ble_eq_true rfl)) dX1_learn_215 ⟨Nat.le_of_ble_eq_true rfl, Nat.le_of_ble_eq_true rfl⟩) hP hD hS hA (fun r _ H locs hr hP hD hS => ?_)
    subst hr
    refine vg_iast hx hb hE.1 hP hD hS 4 0 rfl rfl (f := κ 3) (j := ap) (by omega) (by decide) dX1_learn_218 (fun H locs hP hD hS => ?_)
    have hP : va_P D vwCl (Kw cy ko ka (va_up κ 3 (upd (κ 3) ap (kBit ab))) ζ ++ (Aw ac an 6 ap ab td)) H := hP
    have hD : va_D (va_A (Kw cy ko ka κ ζ ++ (Aw ac an 6 ap ab td)) s.heap.size) (Kw cy ko ka (va_up κ 3 (upd (κ 3) ap (kBit ab))) ζ ++ (Aw ac an 6 ap ab td)) := hD
    refine lv_goto (tgt := 313) hx hb dX1_learn_219 (by decide) ?_
    have eW : (Kw cy ko ka (va_up κ 3 (upd (κ 3) ap (kBit ab))) ζ ++ (Aw ac an 6 ap ab td) : va_W) = Kw cy ko ka (kLearn κ 6 ap ab td) (zLearn ζ 6 ap ab) ++ (Aw ac an 6 ap ab td) := by simp [kLearn, zLearn, kBL, kPart_2]
    have hP : va_P D vwCl (Kw cy ko ka (kLearn κ 6 ap ab td) (zLearn ζ 6 ap ab) ++ (Aw ac an 6 ap ab td)) H := by rw [← eW]; exact hP
    have hD : va_D (va_A (Kw cy ko ka κ ζ ++ (Aw ac an 6 ap ab td)) s.heap.size) (Kw cy ko ka (kLearn κ 6 ap ab td) (zLearn ζ 6 ap ab) ++ (Aw ac an 6 ap ab td)) := by rw [← eW]; exact hD
    exact W.vret hx hb hr (fun t ht hW => ⟨⟨(), rfl, trivial, (by rw [ht]; exact hP), hD⟩, hS.F ht⟩) hS.2.2 dX1_learn_313
  · refine lv_tableIn (x := nI 7) (off := 218) (tgt := 222) hx hb dX1_learn_4 (by decide) (by decide) (by decide) (by decide) ?_
    refine lv_aload_n hx hb dX1_learn_222 rfl (lv_at hl 0 rfl) ?_
    refine lv_aload_n hx hb dX1_learn_223 rfl (lv_at hl 1 rfl) ?_
    refine va_get (D := D) (ci := 1) (v := .int (nI ap)) (C := RX0) (T := TX0) (N := 5) hx hb hts hin_RX0 hown hE.1 hP 6 rfl rfl 2 (by decide) (hts (.fieldLink RX1 41 "Villagepost$Act" "person" "I") (by decide +kernel)) (fun _ h9 => h9) rfl dX1_learn_224 ?_
    refine lv_aload_n hx hb dX1_learn_227 rfl (lv_at hl 1 rfl) ?_
    refine va_get (D := D) (ci := 1) (v := .int (nI ab)) (C := RX0) (T := TX0) (N := 5) hx hb hts hin_RX0 hown hE.1 hP 6 rfl rfl 3 (by decide) (hts (.fieldLink RX1 44 "Villagepost$Act" "about" "I") (by decide +kernel)) (fun _ h9 => h9) rfl dX1_learn_228 ?_
    refine lv_aload_n hx hb dX1_learn_231 rfl (lv_at hl 1 rfl) ?_
    refine va_get (D := D) (ci := 1) (v := .int td) (C := RX0) (T := TX0) (N := 5) hx hb hts hin_RX0 hown hE.1 hP 6 rfl rfl 4 (by decide) (hts (.fieldLink RX1 61 "Villagepost$Act" "told" "I") (by decide +kernel)) (fun _ h9 => h9) rfl dX1_learn_232 ?_
    refine vg_callv (pre := Kw cy ko ka κ ζ ++ (Aw ac an 7 ap ab td)) (RR := []) (wc := Kw cy ko ka κ ζ) (wr := Aw ac an 7 ap ab td) (va_runV (As := [.int (nI ap), .int (nI ab), .int td]) (rest := []) ⟨hx, hb, hml, hown, hts⟩ (kX1_learnMove l D cy s.heap.size ko ka κ ζ ap ab td (by omega) (by omega)) (cwV 3 hts gX1_learn_X1_learnMove rfl rfl rfl (by decide +kernel) ⟨Nat.le_of_ble_eq_true rfl, Nat.le_of_ble_eq_true rfl⟩) (vg_P.preV hE hP 0 rfl rfl (va_P.sub (ws' := Kw cy ko ka κ ζ) hP [0, 1, 2, 3, 4, 5] rfl) (va_D.sub (ws' := Kw cy ko ka κ ζ) hD [0, 1, 2, 3, 4, 5] (by decide) rfl)) rfl rfl hl.1 rfl (lv_room (Nat.le_of_ble_eq_true rfl)) dX1_learn_235 ⟨Nat.le_of_ble_eq_true rfl, Nat.le_of_ble_eq_true rfl⟩) hP hD hS hA [0, 1, 2, 3, 4, 5] [6] rfl rfl (by decide) (by decide) (fun _ H locs hrv hP hD hS => ?_)
    have hP : va_P D vwCl (Kw cy ko ka (kLM κ ap ab td 10) ζ ++ (Aw ac an 7 ap ab td)) H := hP
    have hD : va_D (va_A (Kw cy ko ka κ ζ ++ (Aw ac an 7 ap ab td)) s.heap.size) (Kw cy ko ka (kLM κ ap ab td 10) ζ ++ (Aw ac an 7 ap ab td)) := hD
    refine lv_goto (tgt := 313) hx hb dX1_learn_238 (by decide) ?_
    have eW : (Kw cy ko ka (kLM κ ap ab td 10) ζ ++ (Aw ac an 7 ap ab td) : va_W) = Kw cy ko ka (kLearn κ 7 ap ab td) (zLearn ζ 7 ap ab) ++ (Aw ac an 7 ap ab td) := by simp [kLearn, zLearn, kBL, kPart_2]
    have hP : va_P D vwCl (Kw cy ko ka (kLearn κ 7 ap ab td) (zLearn ζ 7 ap ab) ++ (Aw ac an 7 ap ab td)) H := by rw [← eW]; exact hP
    have hD : va_D (va_A (Kw cy ko ka κ ζ ++ (Aw ac an 7 ap ab td)) s.heap.size) (Kw cy ko ka (kLearn κ 7 ap ab td) (zLearn ζ 7 ap ab) ++ (Aw ac an 7 ap ab td)) := by rw [← eW]; exact hD
    exact W.vret hx hb hr (fun t ht hW => ⟨⟨(), rfl, trivial, (by rw [ht]; exact hP), hD⟩, hS.F ht⟩) hS.2.2 dX1_learn_313
  · refine lv_tableIn (x := nI 8) (off := 237) (tgt := 241) hx hb dX1_learn_4 (by decide) (by decide) (by decide) (by decide) ?_
    refine lv_aload_n hx hb dX1_learn_241 rfl (lv_at hl 0 rfl) ?_
    refine lv_dup hx hb dX1_learn_242 rfl ?_
    refine va_get (D := D) (ci := 2) (v := .long ((ζ 1) 0)) (C := RX1) (T := TX1) (N := 7) hx hb hts hin_RX1 hown hE.1 hP 0 rfl rfl 5 (by decide) (hts (.fieldLink RX1 28 "Villagepost$Knowledge" "arrived" "J") (by decide +kernel)) (fun _ h9 => h9) rfl dX1_learn_243 ?_
    refine lv_lconst (v := 1) hx hb dX1_learn_246 (by decide) ?_
    refine lv_aload_n hx hb dX1_learn_247 rfl (lv_at hl 1 rfl) ?_
    refine va_get (D := D) (ci := 1) (v := .int (nI ab)) (C := RX0) (T := TX0) (N := 5) hx hb hts hin_RX0 hown hE.1 hP 6 rfl rfl 3 (by decide) (hts (.fieldLink RX1 44 "Villagepost$Act" "about" "I") (by decide +kernel)) (fun _ h9 => h9) rfl dX1_learn_248 ?_
    refine lv_lshl (v := (1 : Int64) <<< ((nI ab).toInt64 &&& 63)) hx hb dX1_learn_251 rfl ?_
    refine lv_lor hx hb dX1_learn_252 ?_
    refine va_put (D := (D)) (ci := 2) (v := .long (((ζ 1) 0) ||| ((1 : Int64) <<< ((nI ab).toInt64 &&& 63)))) (ty := .long) (C := RX1) (T := TX1) (N := 7) hx hb hts hin_RX1 tyX1 tyX1_ok nmX1 hown hE.1 hP hD hS 0 rfl rfl 5 (by decide) (hts (.fieldLink RX1 28 "Villagepost$Knowledge" "arrived" "J") (by decide +kernel)) (fun _ h9 => h9) rfl (by decide +kernel) rfl rfl (Nat.le_of_ble_eq_true rfl) dX1_learn_253 (fun H locs hP hD hS => ?_)
    have hP : va_P D vwCl (Kw cy ko ka κ (va_up ζ 1 (fun _ => (((ζ 1) 0) ||| ((1 : Int64) <<< ((nI ab).toInt64 &&& 63))))) ++ (Aw ac an 8 ap ab td)) H := hP
    have hD : va_D (va_A (Kw cy ko ka κ ζ ++ (Aw ac an 8 ap ab td)) s.heap.size) (Kw cy ko ka κ (va_up ζ 1 (fun _ => (((ζ 1) 0) ||| ((1 : Int64) <<< ((nI ab).toInt64 &&& 63))))) ++ (Aw ac an 8 ap ab td)) := hD
    refine lv_goto (tgt := 313) hx hb dX1_learn_256 (by decide) ?_
    have eW : (Kw cy ko ka κ (va_up ζ 1 (fun _ => (((ζ 1) 0) ||| ((1 : Int64) <<< ((nI ab).toInt64 &&& 63))))) ++ (Aw ac an 8 ap ab td) : va_W) = Kw cy ko ka (kLearn κ 8 ap ab td) (zLearn ζ 8 ap ab) ++ (Aw ac an 8 ap ab td) := by simp [kLearn, zLearn, kBL, kPart_2]
    have hP : va_P D vwCl (Kw cy ko ka (kLearn κ 8 ap ab td) (zLearn ζ 8 ap ab) ++ (Aw ac an 8 ap ab td)) H := by rw [← eW]; exact hP
    have hD : va_D (va_A (Kw cy ko ka κ ζ ++ (Aw ac an 8 ap ab td)) s.heap.size) (Kw cy ko ka (kLearn κ 8 ap ab td) (zLearn ζ 8 ap ab) ++ (Aw ac an 8 ap ab td)) := by rw [← eW]; exact hD
    exact W.vret hx hb hr (fun t ht hW => ⟨⟨(), rfl, trivial, (by rw [ht]; exact hP), hD⟩, hS.F ht⟩) hS.2.2 dX1_learn_313
  · refine lv_tableIn (x := nI 9) (off := 255) (tgt := 259) hx hb dX1_learn_4 (by decide) (by decide) (by decide) (by decide) ?_
    refine lv_aload_n hx hb dX1_learn_259 rfl (lv_at hl 0 rfl) ?_
    refine lv_dup hx hb dX1_learn_260 rfl ?_
    refine va_get (D := D) (ci := 2) (v := .long ((ζ 2) 0)) (C := RX1) (T := TX1) (N := 7) hx hb hts hin_RX1 hown hE.1 hP 0 rfl rfl 6 (by decide) (hts (.fieldLink RX1 32 "Villagepost$Knowledge" "marked" "J") (by decide +kernel)) (fun _ h9 => h9) rfl dX1_learn_261 ?_
    refine lv_lconst (v := 1) hx hb dX1_learn_264 (by decide) ?_
    refine lv_aload_n hx hb dX1_learn_265 rfl (lv_at hl 1 rfl) ?_
    refine va_get (D := D) (ci := 1) (v := .int (nI ab)) (C := RX0) (T := TX0) (N := 5) hx hb hts hin_RX0 hown hE.1 hP 6 rfl rfl 3 (by decide) (hts (.fieldLink RX1 44 "Villagepost$Act" "about" "I") (by decide +kernel)) (fun _ h9 => h9) rfl dX1_learn_266 ?_
    refine lv_lshl (v := (1 : Int64) <<< ((nI ab).toInt64 &&& 63)) hx hb dX1_learn_269 rfl ?_
    refine lv_lor hx hb dX1_learn_270 ?_
    refine va_put (D := (D)) (ci := 2) (v := .long (((ζ 2) 0) ||| ((1 : Int64) <<< ((nI ab).toInt64 &&& 63)))) (ty := .long) (C := RX1) (T := TX1) (N := 7) hx hb hts hin_RX1 tyX1 tyX1_ok nmX1 hown hE.1 hP hD hS 0 rfl rfl 6 (by decide) (hts (.fieldLink RX1 32 "Villagepost$Knowledge" "marked" "J") (by decide +kernel)) (fun _ h9 => h9) rfl (by decide +kernel) rfl rfl (Nat.le_of_ble_eq_true rfl) dX1_learn_271 (fun H locs hP hD hS => ?_)
    have hP : va_P D vwCl (Kw cy ko ka κ (va_up ζ 2 (fun _ => (((ζ 2) 0) ||| ((1 : Int64) <<< ((nI ab).toInt64 &&& 63))))) ++ (Aw ac an 9 ap ab td)) H := hP
    have hD : va_D (va_A (Kw cy ko ka κ ζ ++ (Aw ac an 9 ap ab td)) s.heap.size) (Kw cy ko ka κ (va_up ζ 2 (fun _ => (((ζ 2) 0) ||| ((1 : Int64) <<< ((nI ab).toInt64 &&& 63))))) ++ (Aw ac an 9 ap ab td)) := hD
    refine lv_goto (tgt := 313) hx hb dX1_learn_274 (by decide) ?_
    have eW : (Kw cy ko ka κ (va_up ζ 2 (fun _ => (((ζ 2) 0) ||| ((1 : Int64) <<< ((nI ab).toInt64 &&& 63))))) ++ (Aw ac an 9 ap ab td) : va_W) = Kw cy ko ka (kLearn κ 9 ap ab td) (zLearn ζ 9 ap ab) ++ (Aw ac an 9 ap ab td) := by simp [kLearn, zLearn, kBL, kPart_2]
    have hP : va_P D vwCl (Kw cy ko ka (kLearn κ 9 ap ab td) (zLearn ζ 9 ap ab) ++ (Aw ac an 9 ap ab td)) H := by rw [← eW]; exact hP
    have hD : va_D (va_A (Kw cy ko ka κ ζ ++ (Aw ac an 9 ap ab td)) s.heap.size) (Kw cy ko ka (kLearn κ 9 ap ab td) (zLearn ζ 9 ap ab) ++ (Aw ac an 9 ap ab td)) := by rw [← eW]; exact hD
    exact W.vret hx hb hr (fun t ht hW => ⟨⟨(), rfl, trivial, (by rw [ht]; exact hP), hD⟩, hS.F ht⟩) hS.2.2 dX1_learn_313
  · refine lv_tableIn (x := nI 10) (off := 273) (tgt := 277) hx hb dX1_learn_4 (by decide) (by decide) (by decide) (by decide) ?_
    refine lv_aload_n hx hb dX1_learn_277 rfl (lv_at hl 0 rfl) ?_
    refine lv_dup hx hb dX1_learn_278 rfl ?_
    refine va_get (D := D) (ci := 2) (v := .long ((ζ 1) 0)) (C := RX1) (T := TX1) (N := 7) hx hb hts hin_RX1 hown hE.1 hP 0 rfl rfl 5 (by decide) (hts (.fieldLink RX1 28 "Villagepost$Knowledge" "arrived" "J") (by decide +kernel)) (fun _ h9 => h9) rfl dX1_learn_279 ?_
    refine lv_lconst (v := 1) hx hb dX1_learn_282 (by decide) ?_
    refine lv_aload_n hx hb dX1_learn_283 rfl (lv_at hl 1 rfl) ?_
    refine va_get (D := D) (ci := 1) (v := .int (nI ab)) (C := RX0) (T := TX0) (N := 5) hx hb hts hin_RX0 hown hE.1 hP 6 rfl rfl 3 (by decide) (hts (.fieldLink RX1 44 "Villagepost$Act" "about" "I") (by decide +kernel)) (fun _ h9 => h9) rfl dX1_learn_284 ?_
    refine lv_lshl (v := (1 : Int64) <<< ((nI ab).toInt64 &&& 63)) hx hb dX1_learn_287 rfl ?_
    refine lv_lor hx hb dX1_learn_288 ?_
    refine va_put (D := (D)) (ci := 2) (v := .long (((ζ 1) 0) ||| ((1 : Int64) <<< ((nI ab).toInt64 &&& 63)))) (ty := .long) (C := RX1) (T := TX1) (N := 7) hx hb hts hin_RX1 tyX1 tyX1_ok nmX1 hown hE.1 hP hD hS 0 rfl rfl 5 (by decide) (hts (.fieldLink RX1 28 "Villagepost$Knowledge" "arrived" "J") (by decide +kernel)) (fun _ h9 => h9) rfl (by decide +kernel) rfl rfl (Nat.le_of_ble_eq_true rfl) dX1_learn_289 (fun H locs hP hD hS => ?_)
    have hP : va_P D vwCl (Kw cy ko ka κ (va_up ζ 1 (fun _ => (((ζ 1) 0) ||| ((1 : Int64) <<< ((nI ab).toInt64 &&& 63))))) ++ (Aw ac an 10 ap ab td)) H := hP
    have hD : va_D (va_A (Kw cy ko ka κ ζ ++ (Aw ac an 10 ap ab td)) s.heap.size) (Kw cy ko ka κ (va_up ζ 1 (fun _ => (((ζ 1) 0) ||| ((1 : Int64) <<< ((nI ab).toInt64 &&& 63))))) ++ (Aw ac an 10 ap ab td)) := hD
    refine lv_aload_n hx hb dX1_learn_292 rfl (lv_at hl 0 rfl) ?_
    refine va_get (D := D) (ci := 2) (v := .ref (ka 4)) (C := RX1) (T := TX1) (N := 7) hx hb hts hin_RX1 hown hE.1 hP 0 rfl rfl 4 (by decide) (hts (.fieldLink RX1 24 "Villagepost$Knowledge" "boosts" "[J") (by decide +kernel)) (fun _ h9 => h9) rfl dX1_learn_293 ?_
    refine lv_aload_n hx hb dX1_learn_296 rfl (lv_at hl 1 rfl) ?_
    refine va_get (D := D) (ci := 1) (v := .int (nI ap)) (C := RX0) (T := TX0) (N := 5) hx hb hts hin_RX0 hown hE.1 hP 6 rfl rfl 2 (by decide) (hts (.fieldLink RX1 41 "Villagepost$Act" "person" "I") (by decide +kernel)) (fun _ h9 => h9) rfl dX1_learn_297 ?_
    refine lv_dup2_11 hx hb dX1_learn_300 rfl rfl ?_
    refine vg_lald hx hb hE.1 hP 5 1 rfl rfl (f := ζ 0) (j := ap) (by omega) (by decide) dX1_learn_301 ?_
    refine lv_lconst (v := 1) hx hb dX1_learn_302 (by decide) ?_
    refine lv_aload_n hx hb dX1_learn_303 rfl (lv_at hl 1 rfl) ?_
    refine va_get (D := D) (ci := 1) (v := .int (nI ab)) (C := RX0) (T := TX0) (N := 5) hx hb hts hin_RX0 hown hE.1 hP 6 rfl rfl 3 (by decide) (hts (.fieldLink RX1 44 "Villagepost$Act" "about" "I") (by decide +kernel)) (fun _ h9 => h9) rfl dX1_learn_304 ?_
    refine lv_lshl (v := (1 : Int64) <<< ((nI ab).toInt64 &&& 63)) hx hb dX1_learn_307 rfl ?_
    refine lv_lor hx hb dX1_learn_308 ?_
    refine vg_last hx hb hE.1 hP hD hS 5 1 rfl rfl (f := ζ 0) (j := ap) (by omega) (by decide) dX1_learn_309 (fun H locs hP hD hS => ?_)
    have hP : va_P D vwCl (Kw cy ko ka κ (va_up (va_up ζ 1 (fun _ => (((ζ 1) 0) ||| ((1 : Int64) <<< ((nI ab).toInt64 &&& 63))))) 0 (vp_updL (ζ 0) ap (((ζ 0) ap) ||| ((1 : Int64) <<< ((nI ab).toInt64 &&& 63))))) ++ (Aw ac an 10 ap ab td)) H := hP
    have hD : va_D (va_A (Kw cy ko ka κ ζ ++ (Aw ac an 10 ap ab td)) s.heap.size) (Kw cy ko ka κ (va_up (va_up ζ 1 (fun _ => (((ζ 1) 0) ||| ((1 : Int64) <<< ((nI ab).toInt64 &&& 63))))) 0 (vp_updL (ζ 0) ap (((ζ 0) ap) ||| ((1 : Int64) <<< ((nI ab).toInt64 &&& 63))))) ++ (Aw ac an 10 ap ab td)) := hD
    refine lv_goto (tgt := 313) hx hb dX1_learn_310 (by decide) ?_
    have eW : (Kw cy ko ka κ (va_up (va_up ζ 1 (fun _ => (((ζ 1) 0) ||| ((1 : Int64) <<< ((nI ab).toInt64 &&& 63))))) 0 (vp_updL (ζ 0) ap (((ζ 0) ap) ||| ((1 : Int64) <<< ((nI ab).toInt64 &&& 63))))) ++ (Aw ac an 10 ap ab td) : va_W) = Kw cy ko ka (kLearn κ 10 ap ab td) (zLearn ζ 10 ap ab) ++ (Aw ac an 10 ap ab td) := by simp [kLearn, zLearn, kBL, kPart_2]
    have hP : va_P D vwCl (Kw cy ko ka (kLearn κ 10 ap ab td) (zLearn ζ 10 ap ab) ++ (Aw ac an 10 ap ab td)) H := by rw [← eW]; exact hP
    have hD : va_D (va_A (Kw cy ko ka κ ζ ++ (Aw ac an 10 ap ab td)) s.heap.size) (Kw cy ko ka (kLearn κ 10 ap ab td) (zLearn ζ 10 ap ab) ++ (Aw ac an 10 ap ab td)) := by rw [← eW]; exact hD
    exact W.vret hx hb hr (fun t ht hW => ⟨⟨(), rfl, trivial, (by rw [ht]; exact hP), hD⟩, hS.F ht⟩) hS.2.2 dX1_learn_313
