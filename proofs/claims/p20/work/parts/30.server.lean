set_option maxHeartbeats 4000000 in
set_option maxRecDepth 100000 in
theorem kX4_atHomeOf (l : Launch) (D : va_G) (cy : Nat → ClassId) (sz : Nat) (vo : Nat) (sv : Nat) (hm : Nat) (nt : Nat) (aw : Nat) (pe : Int32) (ac : Int32) (χ : Nat → Nat) (sa : Nat → Nat) (si : Nat) (kn : Nat) (lg : Nat) (pk : Nat) (dn : Nat) (dl : Int32) (xi : Nat) (hx : xi < 10) (hs : χ xi = si) (hsi : si < 4) : Met l yX4_atHomeOf wsX4_atHomeOf ({ frames := 0, cells := 0, slots := 0, locals := 0 }) (vg_P D cy [.ref vo, .int (nI xi)] sz ([(vo, .inr (5, [.ref sv, .ref hm, .ref nt, .ref aw, .int pe, .int ac]))] ++ ([(hm, .inl (cy 0, 10, .inl (fun j => nI (χ j))))] ++ ([(sv, .inl (cy 3, 4, .inr (.inr (.inr (.inr (fun j => some (sa j)))))))] ++ ([(sa si, .inr (4, [.ref kn, .ref lg, .ref pk, .ref dn, .int dl]))]))))) (vg_Qq (S := Unit) D sz ([(vo, .inr (5, [.ref sv, .ref hm, .ref nt, .ref aw, .int pe, .int ac]))] ++ ([(hm, .inl (cy 0, 10, .inl (fun j => nI (χ j))))] ++ ([(sv, .inl (cy 3, 4, .inr (.inr (.inr (.inr (fun j => some (sa j)))))))] ++ ([(sa si, .inr (4, [.ref kn, .ref lg, .ref pk, .ref dn, .int dl]))])))) (fun r _ => r = some kn) (fun _ => [(vo, .inr (5, [.ref sv, .ref hm, .ref nt, .ref aw, .int pe, .int ac]))] ++ ([(hm, .inl (cy 0, 10, .inl (fun j => nI (χ j))))] ++ ([(sv, .inl (cy 3, 4, .inr (.inr (.inr (.inr (fun j => some (sa j)))))))] ++ ([(sa si, .inr (4, [.ref kn, .ref lg, .ref pk, .ref dn, .int dl]))]))))) 0 0 (va_A ([(vo, .inr (5, [.ref sv, .ref hm, .ref nt, .ref aw, .int pe, .int ac]))] ++ ([(hm, .inl (cy 0, 10, .inl (fun j => nI (χ j))))] ++ ([(sv, .inl (cy 3, 4, .inr (.inr (.inr (.inr (fun j => some (sa j)))))))] ++ ([(sa si, .inr (4, [.ref kn, .ref lg, .ref pk, .ref dn, .int dl]))])))) sz) := by
  refine Met.ofW (cc := cX4_atHomeOf) (maxL := 2) (ret := (some (.object "Villagepost$Knowledge"))) (by decide) rfl ?_
  intro p e s m args below meth c s₁ BB hml hv
  obtain ⟨rfl, hsz, hP, hE, hD0⟩ := hv
  have hx := BB.exec
  have hb := BB.bytes
  have hr := BB.returns
  have hts := atoms_spec (ws := wsX4_atHomeOf) BB.pre
  have hown : s.vm.findClass RX4 = some m.cls := findClass_of_methodNamed BB.named
  have hlocks := BB.notSynchronized
  subst hsz
  have hD := hD0.self (sz := s.heap.size)
  have hA : ∀ q : Nat, s.heap.size ≤ q → (va_A ([(vo, .inr (5, [.ref sv, .ref hm, .ref nt, .ref aw, .int pe, .int ac]))] ++ ([(hm, .inl (cy 0, 10, .inl (fun j => nI (χ j))))] ++ ([(sv, .inl (cy 3, 4, .inr (.inr (.inr (.inr (fun j => some (sa j)))))))] ++ ([(sa si, .inr (4, [.ref kn, .ref lg, .ref pk, .ref dn, .int dl]))])))) s.heap.size) q := fun q h => Or.inr h
  have hS : va_S (va_A ([(vo, .inr (5, [.ref sv, .ref hm, .ref nt, .ref aw, .int pe, .int ac]))] ++ ([(hm, .inl (cy 0, 10, .inl (fun j => nI (χ j))))] ++ ([(sv, .inl (cy 3, 4, .inr (.inr (.inr (.inr (fun j => some (sa j)))))))] ++ ([(sa si, .inr (4, [.ref kn, .ref lg, .ref pk, .ref dn, .int dl]))])))) s.heap.size) s.heap s.heap [] := va_S.rf
  have hin_RX3 : ∀ w ∈ u_ws RX3 TX3 5, w ∈ wsX4_atHomeOf := by decide +kernel
  have hin_RX4 : ∀ w ∈ u_ws RX4 TX4 6, w ∈ wsX4_atHomeOf := by decide +kernel
  have hl := lv_entry ([.ref vo, .int (nI xi)]) (n := 2) (Nat.le_of_ble_eq_true rfl)
  rw [lg_entry_eq]
  generalize (lg_sl ([.ref vo, .int (nI xi)]) ++ List.replicate (2 - (lg_sl ([.ref vo, .int (nI xi)])).length) Slot.unset).toArray = ls at hl ⊢
  have hl : lv_has ls 2 [(0, .ref vo), (1, .int (nI xi))] := hl
  refine lv_aload_n hx hb dX4_atHomeOf_0 rfl (lv_at hl 0 rfl) ?_
  refine va_get (D := D) (ci := 5) (v := .ref sv) (C := RX4) (T := TX4) (N := 6) hx hb hts hin_RX4 hown hE.1 hP 0 rfl rfl 0 (by decide) (hts (.fieldLink RX4 10 "Villagepost" "servers" "[LVillagepost$Server;") (by decide +kernel)) (fun _ h9 => h9) rfl dX4_atHomeOf_1 ?_
  refine lv_aload_n hx hb dX4_atHomeOf_4 rfl (lv_at hl 0 rfl) ?_
  refine va_get (D := D) (ci := 5) (v := .ref hm) (C := RX4) (T := TX4) (N := 6) hx hb hts hin_RX4 hown hE.1 hP 0 rfl rfl 1 (by decide) (hts (.fieldLink RX4 16 "Villagepost" "homes" "[I") (by decide +kernel)) (fun _ h9 => h9) rfl dX4_atHomeOf_5 ?_
  refine lv_iload_n hx hb dX4_atHomeOf_8 rfl (lv_at hl 1 rfl) ?_
  refine vg_iald hx hb hE.1 hP 1 0 rfl rfl (f := fun j => nI (χ j)) (j := xi) (by omega) (by decide) dX4_atHomeOf_9 ?_
  refine vg_tp (nI si) (congrArg nI hs) ?_
  refine vg_aldq hx hb hE.1 hP 2 3 rfl rfl (j := si) (by omega) (by decide) (v := (sa si)) rfl dX4_atHomeOf_10 ?_
  refine va_get (D := D) (ci := 4) (v := .ref kn) (C := RX3) (T := TX3) (N := 5) hx hb hts hin_RX3 hown hE.1 hP 3 rfl rfl 0 (by decide) (hts (.fieldLink RX4 184 "Villagepost$Server" "knowledge" "LVillagepost$Knowledge;") (by decide +kernel)) (fun _ h9 => h9) rfl dX4_atHomeOf_11 ?_
  exact W.aret (v := .ref kn) hx hb hr (Or.inl ⟨_, rfl⟩) (Or.inr ⟨_, rfl⟩) (fun t ht hW => ⟨⟨some kn, (), rfl, rfl, (by rw [ht]; exact hP), hD⟩, hS.F ht⟩) hS.2.2 dX4_atHomeOf_14

set_option maxHeartbeats 4000000 in
set_option maxRecDepth 100000 in
theorem kX3_waiting (l : Launch) (D : va_G) (cy : Nat → ClassId) (sz : Nat) (sa : Nat → Nat) (si : Nat) (kn : Nat) (lg : Nat) (pk : Nat) (dn : Nat) (dl : Nat) (mc : Int32) (ld : Nat) (nn : Nat) (hd : dl ≤ nn) (hn : nn < 2 ^ 31) : Met l yX3_waiting wsX3_waiting ({ frames := 1, cells := 0, slots := 0, locals := 20 }) (vg_P D cy [.ref (sa si)] sz ([(sa si, .inr (4, [.ref kn, .ref lg, .ref pk, .ref dn, .int (nI dl)]))] ++ ([(pk, .inr (0, [.int mc, .ref ld, .int (nI nn)]))]))) (vg_Qi (S := Unit) D sz ([(sa si, .inr (4, [.ref kn, .ref lg, .ref pk, .ref dn, .int (nI dl)]))] ++ ([(pk, .inr (0, [.int mc, .ref ld, .int (nI nn)]))])) (fun r _ => r = (nI (nn - dl))) (fun _ => [(sa si, .inr (4, [.ref kn, .ref lg, .ref pk, .ref dn, .int (nI dl)]))] ++ ([(pk, .inr (0, [.int mc, .ref ld, .int (nI nn)]))]))) 0 0 (va_A ([(sa si, .inr (4, [.ref kn, .ref lg, .ref pk, .ref dn, .int (nI dl)]))] ++ ([(pk, .inr (0, [.int mc, .ref ld, .int (nI nn)]))])) sz) := by
  refine Met.ofW (cc := cX3_waiting) (maxL := 1) (ret := (some .int)) (by decide) rfl ?_
  intro p e s m args below meth c s₁ BB hml hv
  obtain ⟨rfl, hsz, hP, hE, hD0⟩ := hv
  have hx := BB.exec
  have hb := BB.bytes
  have hr := BB.returns
  have hts := atoms_spec (ws := wsX3_waiting) BB.pre
  have hown : s.vm.findClass RX3 = some m.cls := findClass_of_methodNamed BB.named
  have hlocks := BB.notSynchronized
  subst hsz
  have hD := hD0.self (sz := s.heap.size)
  have hA : ∀ q : Nat, s.heap.size ≤ q → (va_A ([(sa si, .inr (4, [.ref kn, .ref lg, .ref pk, .ref dn, .int (nI dl)]))] ++ ([(pk, .inr (0, [.int mc, .ref ld, .int (nI nn)]))])) s.heap.size) q := fun q h => Or.inr h
  have hS : va_S (va_A ([(sa si, .inr (4, [.ref kn, .ref lg, .ref pk, .ref dn, .int (nI dl)]))] ++ ([(pk, .inr (0, [.int mc, .ref ld, .int (nI nn)]))])) s.heap.size) s.heap s.heap [] := va_S.rf
  have hin_RX3 : ∀ w ∈ u_ws RX3 TX3 5, w ∈ wsX3_waiting := by decide +kernel
  have hl := lv_entry ([.ref (sa si)]) (n := 1) (Nat.le_of_ble_eq_true rfl)
  rw [lg_entry_eq]
  generalize (lg_sl ([.ref (sa si)]) ++ List.replicate (1 - (lg_sl ([.ref (sa si)])).length) Slot.unset).toArray = ls at hl ⊢
  have hl : lv_has ls 1 [(0, .ref (sa si))] := hl
  refine lv_aload_n hx hb dX3_waiting_0 rfl (lv_at hl 0 rfl) ?_
  refine va_get (D := D) (ci := 4) (v := .ref pk) (C := RX3) (T := TX3) (N := 5) hx hb hts hin_RX3 hown hE.1 hP 0 rfl rfl 2 (by decide) (hts (.fieldLink RX3 25 "Villagepost$Server" "packets" "Ljava/util/ArrayList;") (by decide +kernel)) (fun _ h9 => h9) rfl dX3_waiting_1 ?_
  refine vg_calli (pre := [(sa si, .inr (4, [.ref kn, .ref lg, .ref pk, .ref dn, .int (nI dl)]))] ++ ([(pk, .inr (0, [.int mc, .ref ld, .int (nI nn)]))])) (RR := []) (wc := [(pk, .inr (0, [.int mc, .ref ld, .int (nI nn)]))]) (wr := [(sa si, .inr (4, [.ref kn, .ref lg, .ref pk, .ref dn, .int (nI dl)]))]) (va_runV (As := []) (rest := []) ⟨hx, hb, hml, hown, hts⟩ (kJx4a65c_size_8abf5 l D cy s.heap.size pk mc ld nn  ) (cwV 0 hts gX3_waiting_Jx4a65c_size_8abf5 rfl rfl rfl (by decide +kernel) ⟨Nat.le_of_ble_eq_true rfl, Nat.le_of_ble_eq_true rfl⟩) (vg_P.preV hE hP 1 rfl rfl (va_P.sub (ws' := [(pk, .inr (0, [.int mc, .ref ld, .int (nI nn)]))]) hP [1] rfl) (va_D.sub (ws' := [(pk, .inr (0, [.int mc, .ref ld, .int (nI nn)]))]) hD [1] (by decide) rfl)) rfl rfl hl.1 rfl (lv_room (Nat.le_of_ble_eq_true rfl)) dX3_waiting_4 ⟨Nat.le_of_ble_eq_true rfl, Nat.le_of_ble_eq_true rfl⟩) hP hD hS hA [1] [0] rfl rfl (by decide) (by decide) (fun r _ H locs hr hP hD hS => ?_)
  subst hr
  have hP : va_P D vwCl ([(pk, .inr (0, [.int mc, .ref ld, .int (nI nn)]))] ++ ([(sa si, .inr (4, [.ref kn, .ref lg, .ref pk, .ref dn, .int (nI dl)]))])) H := hP
  have hD : va_D (va_A ([(sa si, .inr (4, [.ref kn, .ref lg, .ref pk, .ref dn, .int (nI dl)]))] ++ ([(pk, .inr (0, [.int mc, .ref ld, .int (nI nn)]))])) s.heap.size) ([(pk, .inr (0, [.int mc, .ref ld, .int (nI nn)]))] ++ ([(sa si, .inr (4, [.ref kn, .ref lg, .ref pk, .ref dn, .int (nI dl)]))])) := hD
  refine lv_aload_n hx hb dX3_waiting_7 rfl (lv_at hl 0 rfl) ?_
  refine va_get (D := D) (ci := 4) (v := .int (nI dl)) (C := RX3) (T := TX3) (N := 5) hx hb hts hin_RX3 hown hE.1 hP 1 rfl rfl 4 (by decide) (hts (.fieldLink RX3 32 "Villagepost$Server" "delivered" "I") (by decide +kernel)) (fun _ h9 => h9) rfl dX3_waiting_8 ?_
  refine lv_isub hx hb dX3_waiting_11 ?_
  have hp8 : ([(pk, .inr (0, [.int mc, .ref ld, .int (nI nn)]))] ++ ([(sa si, .inr (4, [.ref kn, .ref lg, .ref pk, .ref dn, .int (nI dl)]))]) : va_W).Perm ([(sa si, .inr (4, [.ref kn, .ref lg, .ref pk, .ref dn, .int (nI dl)]))] ++ ([(pk, .inr (0, [.int mc, .ref ld, .int (nI nn)]))])) := (vp_pc (fun n9 hn9 h90 => by simp only [hn9, h90] <;> omega))
  have hP : va_P D vwCl ([(sa si, .inr (4, [.ref kn, .ref lg, .ref pk, .ref dn, .int (nI dl)]))] ++ ([(pk, .inr (0, [.int mc, .ref ld, .int (nI nn)]))])) H := vp_perm hP hp8
  have hD : va_D (va_A ([(sa si, .inr (4, [.ref kn, .ref lg, .ref pk, .ref dn, .int (nI dl)]))] ++ ([(pk, .inr (0, [.int mc, .ref ld, .int (nI nn)]))])) s.heap.size) ([(sa si, .inr (4, [.ref kn, .ref lg, .ref pk, .ref dn, .int (nI dl)]))] ++ ([(pk, .inr (0, [.int mc, .ref ld, .int (nI nn)]))])) := vd_perm hp8 hD
  refine vg_tp (nI (nn - dl)) (by exact pk_sub hd) ?_
  exact W.iret (v := (nI (nn - dl))) hx hb hr (fun t ht hW => ⟨⟨(nI (nn - dl)), (), rfl, rfl, (by rw [ht]; exact hP), hD⟩, hS.F ht⟩) hS.2.2 dX3_waiting_12
