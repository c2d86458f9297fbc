/-! where people are at home, in the class -/
def kHo (χ : Nat → Nat) (x : Int32) : Nat → Int32
  | 0 => 0
  | o + 1 => if kHas x o = true then kHo χ x o ||| kBit (χ o) else kHo χ x o
set_option maxHeartbeats 4000000 in
set_option maxRecDepth 100000 in
theorem kX4_homeOf (l : Launch) (D : va_G) (cy : Nat → ClassId) (sz : Nat) (vo : Nat) (sv : Nat) (hm : Nat) (nt : Nat) (aw : Nat) (pe : Int32) (ac : Int32) (χ : Nat → Nat) (xi : Nat) (hx : xi < 10) : Met l yX4_homeOf wsX4_homeOf ({ frames := 1, cells := 0, slots := 0, locals := 20 }) (vg_P D cy [.ref vo, .int (nI xi)] sz ([(vo, .inr (5, [.ref sv, .ref hm, .ref nt, .ref aw, .int pe, .int ac]))] ++ ([(hm, .inl (cy 0, 10, .inl (fun j => nI (χ j))))]))) (vg_Qi (S := Unit) D sz ([(vo, .inr (5, [.ref sv, .ref hm, .ref nt, .ref aw, .int pe, .int ac]))] ++ ([(hm, .inl (cy 0, 10, .inl (fun j => nI (χ j))))])) (fun r _ => r = (kBit (χ xi))) (fun _ => [(vo, .inr (5, [.ref sv, .ref hm, .ref nt, .ref aw, .int pe, .int ac]))] ++ ([(hm, .inl (cy 0, 10, .inl (fun j => nI (χ j))))]))) 0 0 (va_A ([(vo, .inr (5, [.ref sv, .ref hm, .ref nt, .ref aw, .int pe, .int ac]))] ++ ([(hm, .inl (cy 0, 10, .inl (fun j => nI (χ j))))])) sz) := by
  refine Met.ofW (cc := cX4_homeOf) (maxL := 2) (ret := (some .int)) (by decide) rfl ?_
  intro p e s m args below meth c s₁ BB hml hv
  obtain ⟨rfl, hsz, hP, hE, hD0⟩ := hv
  have hx := BB.exec
  have hb := BB.bytes
  have hr := BB.returns
  have hts := atoms_spec (ws := wsX4_homeOf) BB.pre
  have hown : s.vm.findClass RX4 = some m.cls := findClass_of_methodNamed BB.named
  have hlocks := BB.notSynchronized
  subst hsz
  have hD := hD0.self (sz := s.heap.size)
  have hA : ∀ q : Nat, s.heap.size ≤ q → (va_A ([(vo, .inr (5, [.ref sv, .ref hm, .ref nt, .ref aw, .int pe, .int ac]))] ++ ([(hm, .inl (cy 0, 10, .inl (fun j => nI (χ j))))])) s.heap.size) q := fun q h => Or.inr h
  have hS : va_S (va_A ([(vo, .inr (5, [.ref sv, .ref hm, .ref nt, .ref aw, .int pe, .int ac]))] ++ ([(hm, .inl (cy 0, 10, .inl (fun j => nI (χ j))))])) s.heap.size) s.heap s.heap [] := va_S.rf
  have hin_RX4 : ∀ w ∈ u_ws RX4 TX4 6, w ∈ wsX4_homeOf := by decide +kernel
  have hl := lv_entry ([.ref vo, .int (nI xi)]) (n := 2) (Nat.le_of_ble_eq_true rfl)
  rw [lg_entry_eq]
  generalize (lg_sl ([.ref vo, .int (nI xi)]) ++ List.replicate (2 - (lg_sl ([.ref vo, .int (nI xi)])).length) Slot.unset).toArray = ls at hl ⊢
  have hl : lv_has ls 2 [(0, .ref vo), (1, .int (nI xi))] := hl
  refine lv_aload_n hx hb dX4_homeOf_0 rfl (lv_at hl 0 rfl) ?_
  refine va_get (D := D) (ci := 5) (v := .ref hm) (C := RX4) (T := TX4) (N := 6) hx hb hts hin_RX4 hown hE.1 hP 0 rfl rfl 1 (by decide) (hts (.fieldLink RX4 16 "Villagepost" "homes" "[I") (by decide +kernel)) (fun _ h9 => h9) rfl dX4_homeOf_1 ?_
  refine lv_iload_n hx hb dX4_homeOf_4 rfl (lv_at hl 1 rfl) ?_
  refine vg_iald hx hb hE.1 hP 1 0 rfl rfl (f := fun j => nI (χ j)) (j := xi) (by omega) (by decide) dX4_homeOf_5 ?_
  refine vg_tp (nI (χ xi)) (rfl) ?_
  refine vg_calliP (va_runS (As := [.int (nI (χ xi))]) (rest := []) ⟨hx, hb, hml, hown, hts⟩ (kX4_bit l D cy s.heap.size (χ xi)) (va_cwS 1 hts gX4_homeOf_X4_bit rfl rfl rfl (by decide +kernel) ⟨Nat.le_of_ble_eq_true rfl, Nat.le_of_ble_eq_true rfl⟩) (vg_P.preS hE vg_P0 (A := fun _ => True) vg_D0) rfl rfl hl.1 rfl (lv_room (Nat.le_of_ble_eq_true rfl)) dX4_homeOf_6 ⟨Nat.le_of_ble_eq_true rfl, Nat.le_of_ble_eq_true rfl⟩) hP hD hS hA (fun r _ H locs hr hP hD hS => ?_)
  subst hr
  refine vg_tp (kBit (χ xi)) (rfl) ?_
  exact W.iret (v := (kBit (χ xi))) hx hb hr (fun t ht hW => ⟨⟨(kBit (χ xi)), (), rfl, rfl, (by rw [ht]; exact hP), hD⟩, hS.F ht⟩) hS.2.2 dX4_homeOf_9

set_option maxHeartbeats 4000000 in
set_option maxRecDepth 100000 in
theorem kX4_homesOf (l : Launch) (D : va_G) (cy : Nat → ClassId) (sz : Nat) (vo : Nat) (sv : Nat) (hm : Nat) (nt : Nat) (aw : Nat) (np : Nat) (ac : Int32) (χ : Nat → Nat) (x : Int32) (hn : np ≤ 10) : Met l yX4_homesOf wsX4_homesOf ({ frames := 2, cells := 0, slots := 0, locals := 41 }) (vg_P D cy [.ref vo, .int x] sz ([(vo, .inr (5, [.ref sv, .ref hm, .ref nt, .ref aw, .int (nI np), .int ac]))] ++ ([(hm, .inl (cy 0, 10, .inl (fun j => nI (χ j))))]))) (vg_Qi (S := Unit) D sz ([(vo, .inr (5, [.ref sv, .ref hm, .ref nt, .ref aw, .int (nI np), .int ac]))] ++ ([(hm, .inl (cy 0, 10, .inl (fun j => nI (χ j))))])) (fun r _ => r = (kHo χ x np)) (fun _ => [(vo, .inr (5, [.ref sv, .ref hm, .ref nt, .ref aw, .int (nI np), .int ac]))] ++ ([(hm, .inl (cy 0, 10, .inl (fun j => nI (χ j))))]))) 0 0 (va_A ([(vo, .inr (5, [.ref sv, .ref hm, .ref nt, .ref aw, .int (nI np), .int ac]))] ++ ([(hm, .inl (cy 0, 10, .inl (fun j => nI (χ j))))])) sz) := by
  refine Met.ofW (cc := cX4_homesOf) (maxL := 4) (ret := (some .int)) (by decide) rfl ?_
  intro p e s m args below meth c s₁ BB hml hv
  obtain ⟨rfl, hsz, hP, hE, hD0⟩ := hv
  have hx := BB.exec
  have hb := BB.bytes
  have hr := BB.returns
  have hts := atoms_spec (ws := wsX4_homesOf) BB.pre
  have hown : s.vm.findClass RX4 = some m.cls := findClass_of_methodNamed BB.named
  have hlocks := BB.notSynchronized
  subst hsz
  have hD := hD0.self (sz := s.heap.size)
  have hA : ∀ q : Nat, s.heap.size ≤ q → (va_A ([(vo, .inr (5, [.ref sv, .ref hm, .ref nt, .ref aw, .int (nI np), .int ac]))] ++ ([(hm, .inl (cy 0, 10, .inl (fun j => nI (χ j))))])) s.heap.size) q := fun q h => Or.inr h
  have hS : va_S (va_A ([(vo, .inr (5, [.ref sv, .ref hm, .ref nt, .ref aw, .int (nI np), .int ac]))] ++ ([(hm, .inl (cy 0, 10, .inl (fun j => nI (χ j))))])) s.heap.size) s.heap s.heap [] := va_S.rf
  have hin_RX4 : ∀ w ∈ u_ws RX4 TX4 6, w ∈ wsX4_homesOf := by decide +kernel
  have hl := lv_entry ([.ref vo, .int x]) (n := 4) (Nat.le_of_ble_eq_true rfl)
  rw [lg_entry_eq]
  generalize (lg_sl ([.ref vo, .int x]) ++ List.replicate (4 - (lg_sl ([.ref vo, .int x])).length) Slot.unset).toArray = ls at hl ⊢
  have hl : lv_has ls 4 [(0, .ref vo), (1, .int x)] := hl
  have L4 : ∀ (fuel : Nat) (o0 : Nat), np - o0 < fuel → (o0 ≤ np) → ∀ (H : Heap) (locs : List Loc), va_P D vwCl ([(vo, .inr (5, [.ref sv, .ref hm, .ref nt, .ref aw, .int (nI np), .int ac]))] ++ ([(hm, .inl (cy 0, 10, .inl (fun j => nI (χ j))))])) H → va_D (va_A ([(vo, .inr (5, [.ref sv, .ref hm, .ref nt, .ref aw, .int (nI np), .int ac]))] ++ ([(hm, .inl (cy 0, 10, .inl (fun j => nI (χ j))))])) s.heap.size) ([(vo, .inr (5, [.ref sv, .ref hm, .ref nt, .ref aw, .int (nI np), .int ac]))] ++ ([(hm, .inl (cy 0, 10, .inl (fun j => nI (χ j))))])) → va_S (va_A ([(vo, .inr (5, [.ref sv, .ref hm, .ref nt, .ref aw, .int (nI np), .int ac]))] ++ ([(hm, .inl (cy 0, 10, .inl (fun j => nI (χ j))))])) s.heap.size) s.heap H locs → ∀ ls : Array Slot, lv_has ls 4 [(0, .ref vo), (1, .int x), (2, .int (kHo χ x o0)), (3, .int (nI o0))] → W p l e (headSpec wsX4_homesOf ({ frames := 2, cells := 0, slots := 0, locals := 41 })).room s m ([.ref vo, .int x] : List Value).toArray below meth c H locs 0 0 (MQ below (vg_Qi (S := Unit) D s.heap.size ([(vo, .inr (5, [.ref sv, .ref hm, .ref nt, .ref aw, .int (nI np), .int ac]))] ++ ([(hm, .inl (cy 0, 10, .inl (fun j => nI (χ j))))])) (fun r _ => r = (kHo χ x np)) (fun _ => [(vo, .inr (5, [.ref sv, .ref hm, .ref nt, .ref aw, .int (nI np), .int ac]))] ++ ([(hm, .inl (cy 0, 10, .inl (fun j => nI (χ j))))]))) ([.ref vo, .int x] : List Value).toArray s 0 0 (va_A ([(vo, .inr (5, [.ref sv, .ref hm, .ref nt, .ref aw, .int (nI np), .int ac]))] ++ ([(hm, .inl (cy 0, 10, .inl (fun j => nI (χ j))))])) s.heap.size)) (F0 m 4 ls []) := by
    intro fuel
    induction fuel with
    | zero => intros; omega
    | succ fuel ih =>
      intro o0 hfuel hi H locs hP hD hS ls hl
      refine lv_iload_n hx hb dX4_homesOf_4 rfl (lv_at hl 3 rfl) ?_
      refine lv_aload_n hx hb dX4_homesOf_5 rfl (lv_at hl 0 rfl) ?_
      refine va_get (D := D) (ci := 5) (v := .int (nI np)) (C := RX4) (T := TX4) (N := 6) hx hb hts hin_RX4 hown hE.1 hP 0 rfl rfl 4 (by decide) (hts (.fieldLink RX4 34 "Villagepost" "people" "I") (by decide +kernel)) (fun _ h9 => h9) rfl dX4_homesOf_6 ?_
      refine lv_icmp_ge (tgt := 34) hx hb dX4_homesOf_9 (by decide) (fun r1 => ?_) (fun r1 => ?_)
      · have c1 : np ≤ o0 := (nI_leI (a := np) (b := o0) (by omega) (by omega)).mp r1
        refine lv_iload_n hx hb dX4_homesOf_34 rfl (lv_at hl 2 rfl) ?_
        refine vg_tp (kHo χ x np) (by first | rfl | rw [show o0 = np from (by omega)]) ?_
        exact W.iret (v := (kHo χ x np)) hx hb hr (fun t ht hW => ⟨⟨(kHo χ x np), (), rfl, rfl, (by rw [ht]; exact hP), hD⟩, hS.F ht⟩) hS.2.2 dX4_homesOf_35
      · have c1 : o0 < np := Nat.lt_of_not_le (fun q => r1 ((nI_leI (a := np) (b := o0) (by omega) (by omega)).mpr q))
        refine lv_iload_n hx hb dX4_homesOf_12 rfl (lv_at hl 1 rfl) ?_
        refine lv_iload_n hx hb dX4_homesOf_13 rfl (lv_at hl 3 rfl) ?_
        refine vg_calliP (va_runS (As := [.int x, .int (nI o0)]) (rest := []) ⟨hx, hb, hml, hown, hts⟩ (kX4_has l D cy H.size x o0) (va_cwS 2 hts gX4_homesOf_X4_has rfl rfl rfl (by decide +kernel) ⟨Nat.le_of_ble_eq_true rfl, Nat.le_of_ble_eq_true rfl⟩) (vg_P.preS hE vg_P0 (A := fun _ => True) vg_D0) rfl rfl hl.1 rfl (lv_room (Nat.le_of_ble_eq_true rfl)) dX4_homesOf_14 ⟨Nat.le_of_ble_eq_true rfl, Nat.le_of_ble_eq_true rfl⟩) hP hD hS hA (fun r _ H locs hr hP hD hS => ?_)
        subst hr
        refine lv_if_eq (tgt := 28) hx hb dX4_homesOf_17 (by decide) (fun r2 => ?_) (fun r2 => ?_)
        · have c2 : (kHas x o0) = false := bI_0.mp r2
          refine lv_iinc (v := (nI (o0 + 1))) (lv' := [(3, .int (nI (o0 + 1))), (0, .ref vo), (1, .int x), (2, .int (kHo χ x o0))]) hx hb dX4_homesOf_28 hl (k := 3) rfl (by first | rfl | exact nI_add _ _ | decide) (by decide) rfl (fun ls hl => ?_)
          have hl : lv_has ls 4 [(0, .ref vo), (1, .int x), (2, .int (kHo χ x o0)), (3, .int (nI (o0 + 1)))] := lv_sub hl [1, 2, 3, 0] rfl
          refine lv_goto (tgt := 4) hx hb dX4_homesOf_31 (by decide) ?_
          have q3 : ((kHo χ x (o0 + 1)) : Int32) = (kHo χ x o0) := by simp [kHo, c1, c2]
          exact ih (o0 + 1) (by omega) (by omega) _ _ hP hD hS ls (by rw [q3]; exact lv_sub hl [0, 1, 2, 3] rfl)
        · have c2 : (kHas x o0) = true := bI_n0.mp r2
          refine lv_iload_n hx hb dX4_homesOf_20 rfl (lv_at hl 2 rfl) ?_
          refine lv_aload_n hx hb dX4_homesOf_21 rfl (lv_at hl 0 rfl) ?_
          refine lv_iload_n hx hb dX4_homesOf_22 rfl (lv_at hl 3 rfl) ?_
          refine vg_calliW (va_runV (As := [.int (nI o0)]) (rest := [.int (kHo χ x o0)]) ⟨hx, hb, hml, hown, hts⟩ (kX4_homeOf l D cy H.size vo sv hm nt aw ((nI np)) ac χ o0 (by omega)) (cwV 1 hts gX4_homesOf_X4_homeOf rfl rfl rfl (by decide +kernel) ⟨Nat.le_of_ble_eq_true rfl, Nat.le_of_ble_eq_true rfl⟩) (vg_P.preV hE hP 0 rfl rfl hP hD) rfl rfl hl.1 rfl (lv_room (Nat.le_of_ble_eq_true rfl)) dX4_homesOf_23 ⟨Nat.le_of_ble_eq_true rfl, Nat.le_of_ble_eq_true rfl⟩) hP hD hS hA (fun r _ H locs hr hP hD hS => ?_)
          subst hr
          refine lv_ior hx hb dX4_homesOf_26 ?_
          refine lv_istore_n (lv' := [(2, .int ((kHo χ x o0) ||| (kBit (χ o0)))), (0, .ref vo), (1, .int x), (3, .int (nI o0))]) hx hb dX4_homesOf_27 rfl hl (by decide) rfl (fun ls hl => ?_)
          have hl : lv_has ls 4 [(0, .ref vo), (1, .int x), (2, .int ((kHo χ x o0) ||| (kBit (χ o0)))), (3, .int (nI o0))] := lv_sub hl [1, 2, 0, 3] rfl
          refine lv_iinc (v := (nI (o0 + 1))) (lv' := [(3, .int (nI (o0 + 1))), (0, .ref vo), (1, .int x), (2, .int ((kHo χ x o0) ||| (kBit (χ o0))))]) hx hb dX4_homesOf_28 hl (k := 3) rfl (by first | rfl | exact nI_add _ _ | decide) (by decide) rfl (fun ls hl => ?_)
          have hl : lv_has ls 4 [(0, .ref vo), (1, .int x), (2, .int ((kHo χ x o0) ||| (kBit (χ o0)))), (3, .int (nI (o0 + 1)))] := lv_sub hl [1, 2, 3, 0] rfl
          refine lv_goto (tgt := 4) hx hb dX4_homesOf_31 (by decide) ?_
          have q4 : ((kHo χ x (o0 + 1)) : Int32) = ((kHo χ x o0) ||| (kBit (χ o0))) := by simp [kHo, c1, c2]
          exact ih (o0 + 1) (by omega) (by omega) _ _ hP hD hS ls (by rw [q4]; exact lv_sub hl [0, 1, 2, 3] rfl)
  refine lv_iconst (v := 0) hx hb dX4_homesOf_0 (by decide) ?_
  refine lv_istore_n (lv' := [(2, .int 0), (0, .ref vo), (1, .int x)]) hx hb dX4_homesOf_1 rfl hl (by decide) rfl (fun ls hl => ?_)
  have hl : lv_has ls 4 [(0, .ref vo), (1, .int x), (2, .int 0)] := lv_sub hl [1, 2, 0] rfl
  refine lv_iconst (v := 0) hx hb dX4_homesOf_2 (by decide) ?_
  refine lv_istore_n (lv' := [(3, .int 0), (0, .ref vo), (1, .int x), (2, .int 0)]) hx hb dX4_homesOf_3 rfl hl (by decide) rfl (fun ls hl => ?_)
  have hl : lv_has ls 4 [(0, .ref vo), (1, .int x), (2, .int 0), (3, .int 0)] := lv_sub hl [1, 2, 3, 0] rfl
  have q5 : ((kHo χ x 0) : Int32) = 0 := by first | rfl | simp []
  have q6 : ((nI 0) : Int32) = 0 := by first | rfl | simp []
  exact L4 ((np - 0) + 1) 0 (by omega) (by omega) _ _ hP hD hS ls (by rw [q5, q6]; exact lv_sub hl [0, 1, 2, 3] rfl)
