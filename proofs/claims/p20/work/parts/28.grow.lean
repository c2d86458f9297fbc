/-! the growing of a list -/
theorem vl_ge0 {v : Nat} (h : 0 < v) (h2 : v < 2 ^ 31) : ¬ nI v ≤ (0 : Int32) := nI_ge h h2
theorem vl_gtm {v : Nat} (h : v ≤ 2147483639) : ¬ (2147483639 : Int32) < nI v := nI_nlt (a := 2147483639) h (by decide)
theorem vl_max {a b : Nat} (ha : a < 2 ^ 31) (hb : b < 2 ^ 31) : (if nI a < nI b then nI b else nI a) = nI (max a b) := by
  by_cases h : a < b
  · rw [if_pos (nI_lt h hb), Nat.max_eq_right (Nat.le_of_lt h)]
  · rw [if_neg (nI_nlt (Nat.not_lt.mp h) ha), Nat.max_eq_left (Nat.not_lt.mp h)]
theorem vl_min {a b : Nat} (ha : a < 2 ^ 31) (hb : b < 2 ^ 31) : (if nI b < nI a then nI b else nI a) = nI (min a b) := by
  by_cases h : b < a
  · rw [if_pos (nI_lt h ha), Nat.min_eq_right (Nat.le_of_lt h)]
  · rw [if_neg (nI_nlt (Nat.not_lt.mp h) hb), Nat.min_eq_left (Nat.not_lt.mp h)]
set_option maxHeartbeats 4000000 in
set_option maxRecDepth 100000 in
theorem kJ8_newLength_cabcc (l : Launch) (D : va_G) (cy : Nat → ClassId) (sz : Nat) (o : Nat) (gr : Nat) (pr : Nat) (h1 : 0 < max gr pr) (h2 : o + max gr pr ≤ 2147483639) : Met l yJ8_newLength_cabcc wsJ8_newLength_cabcc ({ frames := 1, cells := 0, slots := 0, locals := 14 }) (vg_P D cy [.int (nI o), .int (nI gr), .int (nI pr)] sz (([] : va_W))) (vg_Qi (S := Unit) D sz (([] : va_W)) (fun r _ => r = (nI (o + max gr pr))) (fun _ => ([] : va_W))) 0 0 (va_A (([] : va_W)) sz) := by
  refine Met.ofW (cc := cJ8_newLength_cabcc) (maxL := 4) (ret := (some .int)) (by decide) rfl ?_
  intro p e s m args below meth c s₁ BB hml hv
  obtain ⟨rfl, hsz, hP, hE, hD0⟩ := hv
  have hx := BB.exec
  have hb := BB.bytes
  have hr := BB.returns
  have hts := atoms_spec (ws := wsJ8_newLength_cabcc) BB.pre
  have hown : s.vm.findClass RJ8 = some m.cls := findClass_of_methodNamed BB.named
  have hlocks := BB.notSynchronized
  subst hsz
  have hD := hD0.self (sz := s.heap.size)
  have hA : ∀ q : Nat, s.heap.size ≤ q → (va_A (([] : va_W)) s.heap.size) q := fun q h => Or.inr h
  have hS : va_S (va_A (([] : va_W)) s.heap.size) s.heap s.heap [] := va_S.rf
  have hl := lv_entry ([.int (nI o), .int (nI gr), .int (nI pr)]) (n := 4) (Nat.le_of_ble_eq_true rfl)
  rw [lg_entry_eq]
  generalize (lg_sl ([.int (nI o), .int (nI gr), .int (nI pr)]) ++ List.replicate (4 - (lg_sl ([.int (nI o), .int (nI gr), .int (nI pr)])).length) Slot.unset).toArray = ls at hl ⊢
  have hl : lv_has ls 4 [(0, .int (nI o)), (1, .int (nI gr)), (2, .int (nI pr))] := hl
  refine lv_iload_n hx hb dJ8_newLength_cabcc_0 rfl (lv_at hl 0 rfl) ?_
  refine lv_iload_n hx hb dJ8_newLength_cabcc_1 rfl (lv_at hl 1 rfl) ?_
  refine lv_iload_n hx hb dJ8_newLength_cabcc_2 rfl (lv_at hl 2 rfl) ?_
  refine va_mmax hx hb (hml.trans hl.1.symm) hown (hts (.methodLink RJ8 194 Lib.Math.max.name) (by decide +kernel)) (hts (.static Lib.Math.max.name) (by decide +kernel)) (hts (.initialized "java/lang/Math") (by decide +kernel)) (hts (.code Lib.Math.max.name Lib.Math.max.code 2 (some .int)) (by decide +kernel)) (Nat.le_of_ble_eq_true rfl) (Nat.le_of_ble_eq_true rfl) (Nat.le_of_ble_eq_true rfl) (Nat.le_of_ble_eq_true rfl) dJ8_newLength_cabcc_3 ?_
  refine vg_tp (nI (max gr pr)) (vl_max (by omega) (by omega)) ?_
  refine lv_iadd hx hb dJ8_newLength_cabcc_6 ?_
  refine vg_tp (nI (o + (max gr pr))) (nI_add o (max gr pr)) ?_
  refine lv_istore_n (lv' := [(3, .int (nI (o + (max gr pr)))), (0, .int (nI o)), (1, .int (nI gr)), (2, .int (nI pr))]) hx hb dJ8_newLength_cabcc_7 rfl hl (by decide) rfl (fun ls hl => ?_)
  have hl : lv_has ls 4 [(0, .int (nI o)), (1, .int (nI gr)), (2, .int (nI pr)), (3, .int (nI (o + (max gr pr))))] := lv_sub hl [1, 2, 3, 0] rfl
  refine lv_iconst (v := 0) hx hb dJ8_newLength_cabcc_8 (by decide) ?_
  refine lv_iload_n hx hb dJ8_newLength_cabcc_9 rfl (lv_at hl 3 rfl) ?_
  refine lv_icmp_ge (tgt := 21) hx hb dJ8_newLength_cabcc_10 (by decide) (fun c9 => absurd c9 (vl_ge0 (v := o + max gr pr) (by omega) (by omega))) (fun _ => ?_)
  refine lv_iload_n hx hb dJ8_newLength_cabcc_13 rfl (lv_at hl 3 rfl) ?_
  refine lv_ldc (own := RJ8) (index := 200) (v := 2147483639) hx hb hown (hts (.constant RJ8 200 2147483639) (by decide +kernel)) dJ8_newLength_cabcc_14 ?_
  refine lv_icmp_gt (tgt := 21) hx hb dJ8_newLength_cabcc_16 (by decide) (fun c9 => absurd c9 (vl_gtm (v := o + max gr pr) h2)) (fun _ => ?_)
  refine lv_iload_n hx hb dJ8_newLength_cabcc_19 rfl (lv_at hl 3 rfl) ?_
  refine vg_tp (nI (o + max gr pr)) (by first | rfl | simp []) ?_
  exact W.iret (v := (nI (o + max gr pr))) hx hb hr (fun t ht hW => ⟨⟨(nI (o + max gr pr)), (), rfl, rfl, (by rw [ht]; exact hP), hD⟩, hS.F ht⟩) hS.2.2 dJ8_newLength_cabcc_20
