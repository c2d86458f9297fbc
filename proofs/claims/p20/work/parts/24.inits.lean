set_option maxHeartbeats 4000000 in
set_option maxRecDepth 100000 in
theorem kX1_init (l : Launch) (D : va_G) (cy : Nat → ClassId) (sz : Nat) (ko : Nat)  : Met l yX1_init wsX1_init ({ frames := 1, cells := 5, slots := 50, locals := 12 }) (vg_P D cy [.ref ko] sz ([(ko, .inr (2, [.null, .null, .null, .null, .null, .long 0, .long 0]))])) (vg_Qv (S := Nat → Nat) D sz ([(ko, .inr (2, [.null, .null, .null, .null, .null, .long 0, .long 0]))]) (fun _ => True) (fun ka => Kw cy ko ka (fun _ _ => 0) (fun _ _ => 0))) 5 50 (va_A ([(ko, .inr (2, [.null, .null, .null, .null, .null, .long 0, .long 0]))]) sz) := by
  refine Met.ofW (cc := cX1_init) (maxL := 1) (ret := none) (by decide) rfl ?_
  intro p e s m args below meth c s₁ BB hml hv
  obtain ⟨rfl, hsz, hP, hE, hD0⟩ := hv
  have hx := BB.exec
  have hb := BB.bytes
  have hr := BB.returns
  have hts := atoms_spec (ws := wsX1_init) BB.pre
  have hown : s.vm.findClass RX1 = some m.cls := findClass_of_methodNamed BB.named
  have hlocks := BB.notSynchronized
  have hin0 : meth.name = "<init>" := (name_of_methodNamed BB.named BB.method).1
  subst hsz
  have hD := hD0.self (sz := s.heap.size)
  have hA : ∀ q : Nat, s.heap.size ≤ q → (va_A ([(ko, .inr (2, [.null, .null, .null, .null, .null, .long 0, .long 0]))]) s.heap.size) q := fun q h => Or.inr h
  have hS : va_S (va_A ([(ko, .inr (2, [.null, .null, .null, .null, .null, .long 0, .long 0]))]) s.heap.size) s.heap s.heap [] := va_S.rf
  have hin_RX1 : ∀ w ∈ u_ws RX1 TX1 7, w ∈ wsX1_init := by decide +kernel
  have hl := lv_entry ([.ref ko]) (n := 1) (Nat.le_of_ble_eq_true rfl)
  rw [lg_entry_eq]
  generalize (lg_sl ([.ref ko]) ++ List.replicate (1 - (lg_sl ([.ref ko])).length) Slot.unset).toArray = ls at hl ⊢
  have hl : lv_has ls 1 [(0, .ref ko)] := hl
  refine lv_aload_n hx hb dX1_init_0 rfl (lv_at hl 0 rfl) ?_
  refine W.objInit hx hb hown (hts (.methodLink RX1 3 objectInit) (by decide +kernel)) (hts (.instanceMethod objectInit) (by decide +kernel)) (hts (.code objectInit ⟨#[0xb1]⟩ 1 none) (by decide +kernel)) rfl (by rw [hml]; exact hl.1) rfl dX1_init_1 (Nat.le_of_ble_eq_true rfl) (Nat.le_of_ble_eq_true rfl) ?_
  refine W.eq (g2 := F0 m 4 ls []) rfl ?_
  refine lv_aload_n hx hb dX1_init_4 rfl (lv_at hl 0 rfl) ?_
  refine lv_bipush (v := 10) hx hb dX1_init_5 (by decide) ?_
  refine vh_newI hx hb (hts (.arrayClass .int) (by decide +kernel)) hE hP hD hS hA (N' := 10) (by decide) (by decide) (by decide) (Nat.le_of_ble_eq_true rfl) (Nat.le_of_ble_eq_true rfl) dX1_init_7 (fun q1 H hP hD hS => ?_)
  have hP : va_P D vwCl ([(ko, .inr (2, [.null, .null, .null, .null, .null, .long 0, .long 0])), (q1, .inl (cy 0, 10, .inl (fun _ => 0)))]) H := hP
  have hD : va_D (va_A ([(ko, .inr (2, [.null, .null, .null, .null, .null, .long 0, .long 0]))]) s.heap.size) ([(ko, .inr (2, [.null, .null, .null, .null, .null, .long 0, .long 0])), (q1, .inl (cy 0, 10, .inl (fun _ => 0)))]) := hD
  refine va_putF (D := (D)) (ci := 2) (v := .ref q1) (ty := .array .int) (C := RX1) (T := TX1) (N := 7) hx hb hts hin_RX1 tyX1 tyX1_ok nmX1 hown hE.1 hP hD hS 0 rfl rfl 0 (by decide) (hts (.fieldLink RX1 9 "Villagepost$Knowledge" "asks" "[I") (by decide +kernel)) (fun _ h9 => h9) rfl hin0 rfl (by decide +kernel) rfl rfl (Nat.le_of_ble_eq_true rfl) dX1_init_9 (fun H locs hP hD hS => ?_)
  have hP : va_P D vwCl ([(ko, .inr (2, [.ref q1, .null, .null, .null, .null, .long 0, .long 0])), (q1, .inl (cy 0, 10, .inl (fun _ => 0)))]) H := hP
  have hD : va_D (va_A ([(ko, .inr (2, [.null, .null, .null, .null, .null, .long 0, .long 0]))]) s.heap.size) ([(ko, .inr (2, [.ref q1, .null, .null, .null, .null, .long 0, .long 0])), (q1, .inl (cy 0, 10, .inl (fun _ => 0)))]) := hD
  refine lv_aload_n hx hb dX1_init_12 rfl (lv_at hl 0 rfl) ?_
  refine lv_bipush (v := 10) hx hb dX1_init_13 (by decide) ?_
  refine vh_newI hx hb (hts (.arrayClass .int) (by decide +kernel)) hE hP hD hS hA (N' := 10) (by decide) (by decide) (by decide) (Nat.le_of_ble_eq_true rfl) (Nat.le_of_ble_eq_true rfl) dX1_init_15 (fun q2 H hP hD hS => ?_)
  have hP : va_P D vwCl ([(ko, .inr (2, [.ref q1, .null, .null, .null, .null, .long 0, .long 0])), (q1, .inl (cy 0, 10, .inl (fun _ => 0))), (q2, .inl (cy 0, 10, .inl (fun _ => 0)))]) H := hP
  have hD : va_D (va_A ([(ko, .inr (2, [.null, .null, .null, .null, .null, .long 0, .long 0]))]) s.heap.size) ([(ko, .inr (2, [.ref q1, .null, .null, .null, .null, .long 0, .long 0])), (q1, .inl (cy 0, 10, .inl (fun _ => 0))), (q2, .inl (cy 0, 10, .inl (fun _ => 0)))]) := hD
  refine va_putF (D := (D)) (ci := 2) (v := .ref q2) (ty := .array .int) (C := RX1) (T := TX1) (N := 7) hx hb hts hin_RX1 tyX1 tyX1_ok nmX1 hown hE.1 hP hD hS 0 rfl rfl 1 (by decide) (hts (.fieldLink RX1 15 "Villagepost$Knowledge" "follows" "[I") (by decide +kernel)) (fun _ h9 => h9) rfl hin0 rfl (by decide +kernel) rfl rfl (Nat.le_of_ble_eq_true rfl) dX1_init_17 (fun H locs hP hD hS => ?_)
  have hP : va_P D vwCl ([(ko, .inr (2, [.ref q1, .ref q2, .null, .null, .null, .long 0, .long 0])), (q1, .inl (cy 0, 10, .inl (fun _ => 0))), (q2, .inl (cy 0, 10, .inl (fun _ => 0)))]) H := hP
  have hD : va_D (va_A ([(ko, .inr (2, [.null, .null, .null, .null, .null, .long 0, .long 0]))]) s.heap.size) ([(ko, .inr (2, [.ref q1, .ref q2, .null, .null, .null, .long 0, .long 0])), (q1, .inl (cy 0, 10, .inl (fun _ => 0))), (q2, .inl (cy 0, 10, .inl (fun _ => 0)))]) := hD
  refine lv_aload_n hx hb dX1_init_20 rfl (lv_at hl 0 rfl) ?_
  refine lv_bipush (v := 10) hx hb dX1_init_21 (by decide) ?_
  refine vh_newI hx hb (hts (.arrayClass .int) (by decide +kernel)) hE hP hD hS hA (N' := 10) (by decide) (by decide) (by decide) (Nat.le_of_ble_eq_true rfl) (Nat.le_of_ble_eq_true rfl) dX1_init_23 (fun q3 H hP hD hS => ?_)
  have hP : va_P D vwCl ([(ko, .inr (2, [.ref q1, .ref q2, .null, .null, .null, .long 0, .long 0])), (q1, .inl (cy 0, 10, .inl (fun _ => 0))), (q2, .inl (cy 0, 10, .inl (fun _ => 0))), (q3, .inl (cy 0, 10, .inl (fun _ => 0)))]) H := hP
  have hD : va_D (va_A ([(ko, .inr (2, [.null, .null, .null, .null, .null, .long 0, .long 0]))]) s.heap.size) ([(ko, .inr (2, [.ref q1, .ref q2, .null, .null, .null, .long 0, .long 0])), (q1, .inl (cy 0, 10, .inl (fun _ => 0))), (q2, .inl (cy 0, 10, .inl (fun _ => 0))), (q3, .inl (cy 0, 10, .inl (fun _ => 0)))]) := hD
  refine va_putF (D := (D)) (ci := 2) (v := .ref q3) (ty := .array .int) (C := RX1) (T := TX1) (N := 7) hx hb hts hin_RX1 tyX1 tyX1_ok nmX1 hown hE.1 hP hD hS 0 rfl rfl 2 (by decide) (hts (.fieldLink RX1 18 "Villagepost$Knowledge" "blocks" "[I") (by decide +kernel)) (fun _ h9 => h9) rfl hin0 rfl (by decide +kernel) rfl rfl (Nat.le_of_ble_eq_true rfl) dX1_init_25 (fun H locs hP hD hS => ?_)
  have hP : va_P D vwCl ([(ko, .inr (2, [.ref q1, .ref q2, .ref q3, .null, .null, .long 0, .long 0])), (q1, .inl (cy 0, 10, .inl (fun _ => 0))), (q2, .inl (cy 0, 10, .inl (fun _ => 0))), (q3, .inl (cy 0, 10, .inl (fun _ => 0)))]) H := hP
  have hD : va_D (va_A ([(ko, .inr (2, [.null, .null, .null, .null, .null, .long 0, .long 0]))]) s.heap.size) ([(ko, .inr (2, [.ref q1, .ref q2, .ref q3, .null, .null, .long 0, .long 0])), (q1, .inl (cy 0, 10, .inl (fun _ => 0))), (q2, .inl (cy 0, 10, .inl (fun _ => 0))), (q3, .inl (cy 0, 10, .inl (fun _ => 0)))]) := hD
  refine lv_aload_n hx hb dX1_init_28 rfl (lv_at hl 0 rfl) ?_
  refine lv_bipush (v := 10) hx hb dX1_init_29 (by decide) ?_
  refine vh_newI hx hb (hts (.arrayClass .int) (by decide +kernel)) hE hP hD hS hA (N' := 10) (by decide) (by decide) (by decide) (Nat.le_of_ble_eq_true rfl) (Nat.le_of_ble_eq_true rfl) dX1_init_31 (fun q4 H hP hD hS => ?_)
  have hP : va_P D vwCl ([(ko, .inr (2, [.ref q1, .ref q2, .ref q3, .null, .null, .long 0, .long 0])), (q1, .inl (cy 0, 10, .inl (fun _ => 0))), (q2, .inl (cy 0, 10, .inl (fun _ => 0))), (q3, .inl (cy 0, 10, .inl (fun _ => 0))), (q4, .inl (cy 0, 10, .inl (fun _ => 0)))]) H := hP
  have hD : va_D (va_A ([(ko, .inr (2, [.null, .null, .null, .null, .null, .long 0, .long 0]))]) s.heap.size) ([(ko, .inr (2, [.ref q1, .ref q2, .ref q3, .null, .null, .long 0, .long 0])), (q1, .inl (cy 0, 10, .inl (fun _ => 0))), (q2, .inl (cy 0, 10, .inl (fun _ => 0))), (q3, .inl (cy 0, 10, .inl (fun _ => 0))), (q4, .inl (cy 0, 10, .inl (fun _ => 0)))]) := hD
  refine va_putF (D := (D)) (ci := 2) (v := .ref q4) (ty := .array .int) (C := RX1) (T := TX1) (N := 7) hx hb hts hin_RX1 tyX1 tyX1_ok nmX1 hown hE.1 hP hD hS 0 rfl rfl 3 (by decide) (hts (.fieldLink RX1 21 "Villagepost$Knowledge" "aliases" "[I") (by decide +kernel)) (fun _ h9 => h9) rfl hin0 rfl (by decide +kernel) rfl rfl (Nat.le_of_ble_eq_true rfl) dX1_init_33 (fun H locs hP hD hS => ?_)
  have hP : va_P D vwCl ([(ko, .inr (2, [.ref q1, .ref q2, .ref q3, .ref q4, .null, .long 0, .long 0])), (q1, .inl (cy 0, 10, .inl (fun _ => 0))), (q2, .inl (cy 0, 10, .inl (fun _ => 0))), (q3, .inl (cy 0, 10, .inl (fun _ => 0))), (q4, .inl (cy 0, 10, .inl (fun _ => 0)))]) H := hP
  have hD : va_D (va_A ([(ko, .inr (2, [.null, .null, .null, .null, .null, .long 0, .long 0]))]) s.heap.size) ([(ko, .inr (2, [.ref q1, .ref q2, .ref q3, .ref q4, .null, .long 0, .long 0])), (q1, .inl (cy 0, 10, .inl (fun _ => 0))), (q2, .inl (cy 0, 10, .inl (fun _ => 0))), (q3, .inl (cy 0, 10, .inl (fun _ => 0))), (q4, .inl (cy 0, 10, .inl (fun _ => 0)))]) := hD
  refine lv_aload_n hx hb dX1_init_36 rfl (lv_at hl 0 rfl) ?_
  refine lv_bipush (v := 10) hx hb dX1_init_37 (by decide) ?_
  refine vh_newJ hx hb (hts (.arrayClass .long) (by decide +kernel)) hE hP hD hS hA (N' := 10) (by decide) (by decide) (by decide) (Nat.le_of_ble_eq_true rfl) (Nat.le_of_ble_eq_true rfl) dX1_init_39 (fun q5 H hP hD hS => ?_)
  have hP : va_P D vwCl ([(ko, .inr (2, [.ref q1, .ref q2, .ref q3, .ref q4, .null, .long 0, .long 0])), (q1, .inl (cy 0, 10, .inl (fun _ => 0))), (q2, .inl (cy 0, 10, .inl (fun _ => 0))), (q3, .inl (cy 0, 10, .inl (fun _ => 0))), (q4, .inl (cy 0, 10, .inl (fun _ => 0))), (q5, .inl (cy 1, 10, .inr (.inl (fun _ => 0))))]) H := hP
  have hD : va_D (va_A ([(ko, .inr (2, [.null, .null, .null, .null, .null, .long 0, .long 0]))]) s.heap.size) ([(ko, .inr (2, [.ref q1, .ref q2, .ref q3, .ref q4, .null, .long 0, .long 0])), (q1, .inl (cy 0, 10, .inl (fun _ => 0))), (q2, .inl (cy 0, 10, .inl (fun _ => 0))), (q3, .inl (cy 0, 10, .inl (fun _ => 0))), (q4, .inl (cy 0, 10, .inl (fun _ => 0))), (q5, .inl (cy 1, 10, .inr (.inl (fun _ => 0))))]) := hD
  refine va_putF (D := (D)) (ci := 2) (v := .ref q5) (ty := .array .long) (C := RX1) (T := TX1) (N := 7) hx hb hts hin_RX1 tyX1 tyX1_ok nmX1 hown hE.1 hP hD hS 0 rfl rfl 4 (by decide) (hts (.fieldLink RX1 24 "Villagepost$Knowledge" "boosts" "[J") (by decide +kernel)) (fun _ h9 => h9) rfl hin0 rfl (by decide +kernel) rfl rfl (Nat.le_of_ble_eq_true rfl) dX1_init_41 (fun H locs hP hD hS => ?_)
  have hP : va_P D vwCl ([(ko, .inr (2, [.ref q1, .ref q2, .ref q3, .ref q4, .ref q5, .long 0, .long 0])), (q1, .inl (cy 0, 10, .inl (fun _ => 0))), (q2, .inl (cy 0, 10, .inl (fun _ => 0))), (q3, .inl (cy 0, 10, .inl (fun _ => 0))), (q4, .inl (cy 0, 10, .inl (fun _ => 0))), (q5, .inl (cy 1, 10, .inr (.inl (fun _ => 0))))]) H := hP
  have hD : va_D (va_A ([(ko, .inr (2, [.null, .null, .null, .null, .null, .long 0, .long 0]))]) s.heap.size) ([(ko, .inr (2, [.ref q1, .ref q2, .ref q3, .ref q4, .ref q5, .long 0, .long 0])), (q1, .inl (cy 0, 10, .inl (fun _ => 0))), (q2, .inl (cy 0, 10, .inl (fun _ => 0))), (q3, .inl (cy 0, 10, .inl (fun _ => 0))), (q4, .inl (cy 0, 10, .inl (fun _ => 0))), (q5, .inl (cy 1, 10, .inr (.inl (fun _ => 0))))]) := hD
  refine lv_aload_n hx hb dX1_init_44 rfl (lv_at hl 0 rfl) ?_
  refine lv_lconst (v := 0) hx hb dX1_init_45 (by decide) ?_
  refine va_put (D := (D)) (ci := 2) (v := .long 0) (ty := .long) (C := RX1) (T := TX1) (N := 7) hx hb hts hin_RX1 tyX1 tyX1_ok nmX1 hown hE.1 hP hD hS 0 rfl rfl 5 (by decide) (hts (.fieldLink RX1 28 "Villagepost$Knowledge" "arrived" "J") (by decide +kernel)) (fun _ h9 => h9) rfl (by decide +kernel) rfl rfl (Nat.le_of_ble_eq_true rfl) dX1_init_46 (fun H locs hP hD hS => ?_)
  have hP : va_P D vwCl ([(ko, .inr (2, [.ref q1, .ref q2, .ref q3, .ref q4, .ref q5, .long 0, .long 0])), (q1, .inl (cy 0, 10, .inl (fun _ => 0))), (q2, .inl (cy 0, 10, .inl (fun _ => 0))), (q3, .inl (cy 0, 10, .inl (fun _ => 0))), (q4, .inl (cy 0, 10, .inl (fun _ => 0))), (q5, .inl (cy 1, 10, .inr (.inl (fun _ => 0))))]) H := hP
  have hD : va_D (va_A ([(ko, .inr (2, [.null, .null, .null, .null, .null, .long 0, .long 0]))]) s.heap.size) ([(ko, .inr (2, [.ref q1, .ref q2, .ref q3, .ref q4, .ref q5, .long 0, .long 0])), (q1, .inl (cy 0, 10, .inl (fun _ => 0))), (q2, .inl (cy 0, 10, .inl (fun _ => 0))), (q3, .inl (cy 0, 10, .inl (fun _ => 0))), (q4, .inl (cy 0, 10, .inl (fun _ => 0))), (q5, .inl (cy 1, 10, .inr (.inl (fun _ => 0))))]) := hD
  refine lv_aload_n hx hb dX1_init_49 rfl (lv_at hl 0 rfl) ?_
  refine lv_lconst (v := 0) hx hb dX1_init_50 (by decide) ?_
  refine va_put (D := (D)) (ci := 2) (v := .long 0) (ty := .long) (C := RX1) (T := TX1) (N := 7) hx hb hts hin_RX1 tyX1 tyX1_ok nmX1 hown hE.1 hP hD hS 0 rfl rfl 6 (by decide) (hts (.fieldLink RX1 32 "Villagepost$Knowledge" "marked" "J") (by decide +kernel)) (fun _ h9 => h9) rfl (by decide +kernel) rfl rfl (Nat.le_of_ble_eq_true rfl) dX1_init_51 (fun H locs hP hD hS => ?_)
  have hP : va_P D vwCl ([(ko, .inr (2, [.ref q1, .ref q2, .ref q3, .ref q4, .ref q5, .long 0, .long 0])), (q1, .inl (cy 0, 10, .inl (fun _ => 0))), (q2, .inl (cy 0, 10, .inl (fun _ => 0))), (q3, .inl (cy 0, 10, .inl (fun _ => 0))), (q4, .inl (cy 0, 10, .inl (fun _ => 0))), (q5, .inl (cy 1, 10, .inr (.inl (fun _ => 0))))]) H := hP
  have hD : va_D (va_A ([(ko, .inr (2, [.null, .null, .null, .null, .null, .long 0, .long 0]))]) s.heap.size) ([(ko, .inr (2, [.ref q1, .ref q2, .ref q3, .ref q4, .ref q5, .long 0, .long 0])), (q1, .inl (cy 0, 10, .inl (fun _ => 0))), (q2, .inl (cy 0, 10, .inl (fun _ => 0))), (q3, .inl (cy 0, 10, .inl (fun _ => 0))), (q4, .inl (cy 0, 10, .inl (fun _ => 0))), (q5, .inl (cy 1, 10, .inr (.inl (fun _ => 0))))]) := hD
  exact W.vret hx hb hr (fun t ht hW => ⟨⟨(fun k => ([q1, q2, q3, q4, q5, 0, 0] : List Nat).getD k 0), rfl, trivial, (by rw [ht]; exact hP), hD⟩, hS.F ht⟩) hS.2.2 dX1_init_54

set_option maxHeartbeats 4000000 in
set_option maxRecDepth 100000 in
theorem kX0_init (l : Launch) (D : va_G) (cy : Nat → ClassId) (sz : Nat) (ac : Nat) (an : Nat) (ak : Nat) (ap : Nat) (ab : Nat) (td : Int32)  : Met l yX0_init wsX0_init ({ frames := 1, cells := 0, slots := 0, locals := 12 }) (vg_P D cy [.ref ac, .int (nI an), .int (nI ak), .int (nI ap), .int (nI ab), .int td] sz ([(ac, .inr (1, [.int 0, .int 0, .int 0, .int 0, .int 0]))])) (vg_Qv (S := Unit) D sz ([(ac, .inr (1, [.int 0, .int 0, .int 0, .int 0, .int 0]))]) (fun _ => True) (fun _ => [(ac, .inr (1, [.int (nI an), .int (nI ak), .int (nI ap), .int (nI ab), .int td]))])) 0 0 (va_A ([(ac, .inr (1, [.int 0, .int 0, .int 0, .int 0, .int 0]))]) sz) := by
  refine Met.ofW (cc := cX0_init) (maxL := 6) (ret := none) (by decide) rfl ?_
  intro p e s m args below meth c s₁ BB hml hv
  obtain ⟨rfl, hsz, hP, hE, hD0⟩ := hv
  have hx := BB.exec
  have hb := BB.bytes
  have hr := BB.returns
  have hts := atoms_spec (ws := wsX0_init) BB.pre
  have hown : s.vm.findClass RX0 = some m.cls := findClass_of_methodNamed BB.named
  have hlocks := BB.notSynchronized
  have hin0 : meth.name = "<init>" := (name_of_methodNamed BB.named BB.method).1
  subst hsz
  have hD := hD0.self (sz := s.heap.size)
  have hA : ∀ q : Nat, s.heap.size ≤ q → (va_A ([(ac, .inr (1, [.int 0, .int 0, .int 0, .int 0, .int 0]))]) s.heap.size) q := fun q h => Or.inr h
  have hS : va_S (va_A ([(ac, .inr (1, [.int 0, .int 0, .int 0, .int 0, .int 0]))]) s.heap.size) s.heap s.heap [] := va_S.rf
  have hin_RX0 : ∀ w ∈ u_ws RX0 TX0 5, w ∈ wsX0_init := by decide +kernel
  have hl := lv_entry ([.ref ac, .int (nI an), .int (nI ak), .int (nI ap), .int (nI ab), .int td]) (n := 6) (Nat.le_of_ble_eq_true rfl)
  rw [lg_entry_eq]
  generalize (lg_sl ([.ref ac, .int (nI an), .int (nI ak), .int (nI ap), .int (nI ab), .int td]) ++ List.replicate (6 - (lg_sl ([.ref ac, .int (nI an), .int (nI ak), .int (nI ap), .int (nI ab), .int td])).length) Slot.unset).toArray = ls at hl ⊢
  have hl : lv_has ls 6 [(0, .ref ac), (1, .int (nI an)), (2, .int (nI ak)), (3, .int (nI ap)), (4, .int (nI ab)), (5, .int td)] := hl
  refine lv_aload_n hx hb dX0_init_0 rfl (lv_at hl 0 rfl) ?_
  refine W.objInit hx hb hown (hts (.methodLink RX0 1 objectInit) (by decide +kernel)) (hts (.instanceMethod objectInit) (by decide +kernel)) (hts (.code objectInit ⟨#[0xb1]⟩ 1 none) (by decide +kernel)) rfl (by rw [hml]; exact hl.1) rfl dX0_init_1 (Nat.le_of_ble_eq_true rfl) (Nat.le_of_ble_eq_true rfl) ?_
  refine W.eq (g2 := F0 m 4 ls []) rfl ?_
  refine lv_aload_n hx hb dX0_init_4 rfl (lv_at hl 0 rfl) ?_
  refine lv_iload_n hx hb dX0_init_5 rfl (lv_at hl 1 rfl) ?_
  refine va_putF (D := (D)) (ci := 1) (v := .int (nI an)) (ty := .int) (C := RX0) (T := TX0) (N := 5) hx hb hts hin_RX0 tyX0 tyX0_ok nmX0 hown hE.1 hP hD hS 0 rfl rfl 0 (by decide) (hts (.fieldLink RX0 7 "Villagepost$Act" "number" "I") (by decide +kernel)) (fun _ h9 => h9) rfl hin0 rfl (by decide +kernel) rfl rfl (Nat.le_of_ble_eq_true rfl) dX0_init_6 (fun H locs hP hD hS => ?_)
  have hP : va_P D vwCl ([(ac, .inr (1, [.int (nI an), .int 0, .int 0, .int 0, .int 0]))]) H := hP
  have hD : va_D (va_A ([(ac, .inr (1, [.int 0, .int 0, .int 0, .int 0, .int 0]))]) s.heap.size) ([(ac, .inr (1, [.int (nI an), .int 0, .int 0, .int 0, .int 0]))]) := hD
  refine lv_aload_n hx hb dX0_init_9 rfl (lv_at hl 0 rfl) ?_
  refine lv_iload_n hx hb dX0_init_10 rfl (lv_at hl 2 rfl) ?_
  refine va_putF (D := (D)) (ci := 1) (v := .int (nI ak)) (ty := .int) (C := RX0) (T := TX0) (N := 5) hx hb hts hin_RX0 tyX0 tyX0_ok nmX0 hown hE.1 hP hD hS 0 rfl rfl 1 (by decide) (hts (.fieldLink RX0 13 "Villagepost$Act" "kind" "I") (by decide +kernel)) (fun _ h9 => h9) rfl hin0 rfl (by decide +kernel) rfl rfl (Nat.le_of_ble_eq_true rfl) dX0_init_11 (fun H locs hP hD hS => ?_)
  have hP : va_P D vwCl ([(ac, .inr (1, [.int (nI an), .int (nI ak), .int 0, .int 0, .int 0]))]) H := hP
  have hD : va_D (va_A ([(ac, .inr (1, [.int 0, .int 0, .int 0, .int 0, .int 0]))]) s.heap.size) ([(ac, .inr (1, [.int (nI an), .int (nI ak), .int 0, .int 0, .int 0]))]) := hD
  refine lv_aload_n hx hb dX0_init_14 rfl (lv_at hl 0 rfl) ?_
  refine lv_iload_n hx hb dX0_init_15 rfl (lv_at hl 3 rfl) ?_
  refine va_putF (D := (D)) (ci := 1) (v := .int (nI ap)) (ty := .int) (C := RX0) (T := TX0) (N := 5) hx hb hts hin_RX0 tyX0 tyX0_ok nmX0 hown hE.1 hP hD hS 0 rfl rfl 2 (by decide) (hts (.fieldLink RX0 16 "Villagepost$Act" "person" "I") (by decide +kernel)) (fun _ h9 => h9) rfl hin0 rfl (by decide +kernel) rfl rfl (Nat.le_of_ble_eq_true rfl) dX0_init_16 (fun H locs hP hD hS => ?_)
  have hP : va_P D vwCl ([(ac, .inr (1, [.int (nI an), .int (nI ak), .int (nI ap), .int 0, .int 0]))]) H := hP
  have hD : va_D (va_A ([(ac, .inr (1, [.int 0, .int 0, .int 0, .int 0, .int 0]))]) s.heap.size) ([(ac, .inr (1, [.int (nI an), .int (nI ak), .int (nI ap), .int 0, .int 0]))]) := hD
  refine lv_aload_n hx hb dX0_init_19 rfl (lv_at hl 0 rfl) ?_
  refine lv_iload hx hb dX0_init_20 (lv_at hl 4 rfl) ?_
  refine va_putF (D := (D)) (ci := 1) (v := .int (nI ab)) (ty := .int) (C := RX0) (T := TX0) (N := 5) hx hb hts hin_RX0 tyX0 tyX0_ok nmX0 hown hE.1 hP hD hS 0 rfl rfl 3 (by decide) (hts (.fieldLink RX0 19 "Villagepost$Act" "about" "I") (by decide +kernel)) (fun _ h9 => h9) rfl hin0 rfl (by decide +kernel) rfl rfl (Nat.le_of_ble_eq_true rfl) dX0_init_22 (fun H locs hP hD hS => ?_)
  have hP : va_P D vwCl ([(ac, .inr (1, [.int (nI an), .int (nI ak), .int (nI ap), .int (nI ab), .int 0]))]) H := hP
  have hD : va_D (va_A ([(ac, .inr (1, [.int 0, .int 0, .int 0, .int 0, .int 0]))]) s.heap.size) ([(ac, .inr (1, [.int (nI an), .int (nI ak), .int (nI ap), .int (nI ab), .int 0]))]) := hD
  refine lv_aload_n hx hb dX0_init_25 rfl (lv_at hl 0 rfl) ?_
  refine lv_iload hx hb dX0_init_26 (lv_at hl 5 rfl) ?_
  refine va_putF (D := (D)) (ci := 1) (v := .int td) (ty := .int) (C := RX0) (T := TX0) (N := 5) hx hb hts hin_RX0 tyX0 tyX0_ok nmX0 hown hE.1 hP hD hS 0 rfl rfl 4 (by decide) (hts (.fieldLink RX0 22 "Villagepost$Act" "told" "I") (by decide +kernel)) (fun _ h9 => h9) rfl hin0 rfl (by decide +kernel) rfl rfl (Nat.le_of_ble_eq_true rfl) dX0_init_28 (fun H locs hP hD hS => ?_)
  have hP : va_P D vwCl ([(ac, .inr (1, [.int (nI an), .int (nI ak), .int (nI ap), .int (nI ab), .int td]))]) H := hP
  have hD : va_D (va_A ([(ac, .inr (1, [.int 0, .int 0, .int 0, .int 0, .int 0]))]) s.heap.size) ([(ac, .inr (1, [.int (nI an), .int (nI ak), .int (nI ap), .int (nI ab), .int td]))]) := hD
  exact W.vret hx hb hr (fun t ht hW => ⟨⟨(), rfl, trivial, (by rw [ht]; exact hP), hD⟩, hS.F ht⟩) hS.2.2 dX0_init_31

set_option maxHeartbeats 4000000 in
set_option maxRecDepth 100000 in
theorem kX2_init (l : Launch) (D : va_G) (cy : Nat → ClassId) (sz : Nat) (no : Nat) (au : Nat) (kd : Int32) (na : Int32) (th : Int32) (we : Int32)  : Met l yX2_init wsX2_init ({ frames := 1, cells := 0, slots := 0, locals := 12 }) (vg_P D cy [.ref no, .int (nI au), .int kd, .int na, .int th, .int we] sz ([(no, .inr (3, [.int 0, .int 0, .int 0, .int 0, .int 0, .int 0]))])) (vg_Qv (S := Unit) D sz ([(no, .inr (3, [.int 0, .int 0, .int 0, .int 0, .int 0, .int 0]))]) (fun _ => True) (fun _ => [(no, .inr (3, [.int (nI au), .int kd, .int na, .int th, .int we, .int 0]))])) 0 0 (va_A ([(no, .inr (3, [.int 0, .int 0, .int 0, .int 0, .int 0, .int 0]))]) sz) := by
  refine Met.ofW (cc := cX2_init) (maxL := 6) (ret := none) (by decide) rfl ?_
  intro p e s m args below meth c s₁ BB hml hv
  obtain ⟨rfl, hsz, hP, hE, hD0⟩ := hv
  have hx := BB.exec
  have hb := BB.bytes
  have hr := BB.returns
  have hts := atoms_spec (ws := wsX2_init) BB.pre
  have hown : s.vm.findClass RX2 = some m.cls := findClass_of_methodNamed BB.named
  have hlocks := BB.notSynchronized
  have hin0 : meth.name = "<init>" := (name_of_methodNamed BB.named BB.method).1
  subst hsz
  have hD := hD0.self (sz := s.heap.size)
  have hA : ∀ q : Nat, s.heap.size ≤ q → (va_A ([(no, .inr (3, [.int 0, .int 0, .int 0, .int 0, .int 0, .int 0]))]) s.heap.size) q := fun q h => Or.inr h
  have hS : va_S (va_A ([(no, .inr (3, [.int 0, .int 0, .int 0, .int 0, .int 0, .int 0]))]) s.heap.size) s.heap s.heap [] := va_S.rf
  have hin_RX2 : ∀ w ∈ u_ws RX2 TX2 6, w ∈ wsX2_init := by decide +kernel
  have hl := lv_entry ([.ref no, .int (nI au), .int kd, .int na, .int th, .int we]) (n := 6) (Nat.le_of_ble_eq_true rfl)
  rw [lg_entry_eq]
  generalize (lg_sl ([.ref no, .int (nI au), .int kd, .int na, .int th, .int we]) ++ List.replicate (6 - (lg_sl ([.ref no, .int (nI au), .int kd, .int na, .int th, .int we])).length) Slot.unset).toArray = ls at hl ⊢
  have hl : lv_has ls 6 [(0, .ref no), (1, .int (nI au)), (2, .int kd), (3, .int na), (4, .int th), (5, .int we)] := hl
  refine lv_aload_n hx hb dX2_init_0 rfl (lv_at hl 0 rfl) ?_
  refine W.objInit hx hb hown (hts (.methodLink RX2 1 objectInit) (by decide +kernel)) (hts (.instanceMethod objectInit) (by decide +kernel)) (hts (.code objectInit ⟨#[0xb1]⟩ 1 none) (by decide +kernel)) rfl (by rw [hml]; exact hl.1) rfl dX2_init_1 (Nat.le_of_ble_eq_true rfl) (Nat.le_of_ble_eq_true rfl) ?_
  refine W.eq (g2 := F0 m 4 ls []) rfl ?_
  refine lv_aload_n hx hb dX2_init_4 rfl (lv_at hl 0 rfl) ?_
  refine lv_iconst (v := 0) hx hb dX2_init_5 (by decide) ?_
  refine va_put (D := (D)) (ci := 3) (v := .int 0) (ty := .int) (C := RX2) (T := TX2) (N := 6) hx hb hts hin_RX2 tyX2 tyX2_ok nmX2 hown hE.1 hP hD hS 0 rfl rfl 5 (by decide) (hts (.fieldLink RX2 7 "Villagepost$Note" "sentOn" "I") (by decide +kernel)) (fun _ h9 => h9) rfl (by decide +kernel) rfl rfl (Nat.le_of_ble_eq_true rfl) dX2_init_6 (fun H locs hP hD hS => ?_)
  have hP : va_P D vwCl ([(no, .inr (3, [.int 0, .int 0, .int 0, .int 0, .int 0, .int 0]))]) H := hP
  have hD : va_D (va_A ([(no, .inr (3, [.int 0, .int 0, .int 0, .int 0, .int 0, .int 0]))]) s.heap.size) ([(no, .inr (3, [.int 0, .int 0, .int 0, .int 0, .int 0, .int 0]))]) := hD
  refine lv_aload_n hx hb dX2_init_9 rfl (lv_at hl 0 rfl) ?_
  refine lv_iload_n hx hb dX2_init_10 rfl (lv_at hl 1 rfl) ?_
  refine va_putF (D := (D)) (ci := 3) (v := .int (nI au)) (ty := .int) (C := RX2) (T := TX2) (N := 6) hx hb hts hin_RX2 tyX2 tyX2_ok nmX2 hown hE.1 hP hD hS 0 rfl rfl 0 (by decide) (hts (.fieldLink RX2 13 "Villagepost$Note" "author" "I") (by decide +kernel)) (fun _ h9 => h9) rfl hin0 rfl (by decide +kernel) rfl rfl (Nat.le_of_ble_eq_true rfl) dX2_init_11 (fun H locs hP hD hS => ?_)
  have hP : va_P D vwCl ([(no, .inr (3, [.int (nI au), .int 0, .int 0, .int 0, .int 0, .int 0]))]) H := hP
  have hD : va_D (va_A ([(no, .inr (3, [.int 0, .int 0, .int 0, .int 0, .int 0, .int 0]))]) s.heap.size) ([(no, .inr (3, [.int (nI au), .int 0, .int 0, .int 0, .int 0, .int 0]))]) := hD
  refine lv_aload_n hx hb dX2_init_14 rfl (lv_at hl 0 rfl) ?_
  refine lv_iload_n hx hb dX2_init_15 rfl (lv_at hl 2 rfl) ?_
  refine va_putF (D := (D)) (ci := 3) (v := .int kd) (ty := .int) (C := RX2) (T := TX2) (N := 6) hx hb hts hin_RX2 tyX2 tyX2_ok nmX2 hown hE.1 hP hD hS 0 rfl rfl 1 (by decide) (hts (.fieldLink RX2 16 "Villagepost$Note" "kind" "I") (by decide +kernel)) (fun _ h9 => h9) rfl hin0 rfl (by decide +kernel) rfl rfl (Nat.le_of_ble_eq_true rfl) dX2_init_16 (fun H locs hP hD hS => ?_)
  have hP : va_P D vwCl ([(no, .inr (3, [.int (nI au), .int kd, .int 0, .int 0, .int 0, .int 0]))]) H := hP
  have hD : va_D (va_A ([(no, .inr (3, [.int 0, .int 0, .int 0, .int 0, .int 0, .int 0]))]) s.heap.size) ([(no, .inr (3, [.int (nI au), .int kd, .int 0, .int 0, .int 0, .int 0]))]) := hD
  refine lv_aload_n hx hb dX2_init_19 rfl (lv_at hl 0 rfl) ?_
  refine lv_iload_n hx hb dX2_init_20 rfl (lv_at hl 3 rfl) ?_
  refine va_putF (D := (D)) (ci := 3) (v := .int na) (ty := .int) (C := RX2) (T := TX2) (N := 6) hx hb hts hin_RX2 tyX2 tyX2_ok nmX2 hown hE.1 hP hD hS 0 rfl rfl 2 (by decide) (hts (.fieldLink RX2 19 "Villagepost$Note" "named" "I") (by decide +kernel)) (fun _ h9 => h9) rfl hin0 rfl (by decide +kernel) rfl rfl (Nat.le_of_ble_eq_true rfl) dX2_init_21 (fun H locs hP hD hS => ?_)
  have hP : va_P D vwCl ([(no, .inr (3, [.int (nI au), .int kd, .int na, .int 0, .int 0, .int 0]))]) H := hP
  have hD : va_D (va_A ([(no, .inr (3, [.int 0, .int 0, .int 0, .int 0, .int 0, .int 0]))]) s.heap.size) ([(no, .inr (3, [.int (nI au), .int kd, .int na, .int 0, .int 0, .int 0]))]) := hD
  refine lv_aload_n hx hb dX2_init_24 rfl (lv_at hl 0 rfl) ?_
  refine lv_iload hx hb dX2_init_25 (lv_at hl 4 rfl) ?_
  refine va_putF (D := (D)) (ci := 3) (v := .int th) (ty := .int) (C := RX2) (T := TX2) (N := 6) hx hb hts hin_RX2 tyX2 tyX2_ok nmX2 hown hE.1 hP hD hS 0 rfl rfl 3 (by decide) (hts (.fieldLink RX2 22 "Villagepost$Note" "thread" "I") (by decide +kernel)) (fun _ h9 => h9) rfl hin0 rfl (by decide +kernel) rfl rfl (Nat.le_of_ble_eq_true rfl) dX2_init_27 (fun H locs hP hD hS => ?_)
  have hP : va_P D vwCl ([(no, .inr (3, [.int (nI au), .int kd, .int na, .int th, .int 0, .int 0]))]) H := hP
  have hD : va_D (va_A ([(no, .inr (3, [.int 0, .int 0, .int 0, .int 0, .int 0, .int 0]))]) s.heap.size) ([(no, .inr (3, [.int (nI au), .int kd, .int na, .int th, .int 0, .int 0]))]) := hD
  refine lv_aload_n hx hb dX2_init_30 rfl (lv_at hl 0 rfl) ?_
  refine lv_iload hx hb dX2_init_31 (lv_at hl 5 rfl) ?_
  refine va_put (D := (D)) (ci := 3) (v := .int we) (ty := .int) (C := RX2) (T := TX2) (N := 6) hx hb hts hin_RX2 tyX2 tyX2_ok nmX2 hown hE.1 hP hD hS 0 rfl rfl 4 (by decide) (hts (.fieldLink RX2 25 "Villagepost$Note" "went" "I") (by decide +kernel)) (fun _ h9 => h9) rfl (by decide +kernel) rfl rfl (Nat.le_of_ble_eq_true rfl) dX2_init_33 (fun H locs hP hD hS => ?_)
  have hP : va_P D vwCl ([(no, .inr (3, [.int (nI au), .int kd, .int na, .int th, .int we, .int 0]))]) H := hP
  have hD : va_D (va_A ([(no, .inr (3, [.int 0, .int 0, .int 0, .int 0, .int 0, .int 0]))]) s.heap.size) ([(no, .inr (3, [.int (nI au), .int kd, .int na, .int th, .int we, .int 0]))]) := hD
  exact W.vret hx hb hr (fun t ht hW => ⟨⟨(), rfl, trivial, (by rw [ht]; exact hP), hD⟩, hS.F ht⟩) hS.2.2 dX2_init_36
