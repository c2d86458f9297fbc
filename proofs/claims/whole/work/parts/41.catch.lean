/-! the law's small methods: they catch -/
def uOut (cy : Nat → ClassId) (oa : Nat) (f : Nat → Int64) : va_W := [(oa, .inl (cy 1, 1, .inr (.inl f)))]
theorem vw_ofWH {l : Launch} {y : MethodName} {ws ws' : List Cond} {rm : Room} {Pc : Array Value → State → Prop} {Qc : Array Value → State → Outcome → State → Prop} {mc ms : Nat} {free : Addr → Prop} {cc : ByteArray} {maxL : Nat} {ret : Option FieldType} {hh : List (Nat × Nat × Nat × Nat)}
    (hy : plainName y.cls = true) (hw : ws = Cond.codeWith y cc maxL ret hh :: ws')
    (body : ∀ p e s m args below meth c s₁, BodyLoose p l y (headSpec ws rm) cc maxL ret e s m args below meth c s₁ → c.maxLocals = maxL → Pc args s →
      W p l e (headSpec ws rm).room s m args below meth c s.heap [] 0 0 (MQ below Qc args s mc ms free) (entryFrame m args maxL)) : Met l y ws rm Pc Qc mc ms free := by
  refine MetFree.of_bodyS (code := cc) (maxLocals := maxL) (ret := ret) hy ?_ ?_
  · intro args s m h hn
    obtain ⟨m9, meth, c, hn9, h1, h2, h3, h4, -, h5, h6, -⟩ := Cond.codeWith_spec (atoms_spec (ws := ws) h _ (by rw [hw]; exact List.mem_cons_self))
    cases hn.symm.trans hn9
    exact ⟨meth, c, h1, h2, h3, h4, h5, h6⟩
  · intro p e s m args below meth c s₁ B hml hP _
    have hh0 : s₁.heap = s.heap := by rw [B.state]; rfl
    obtain ⟨t, a1, o, b1, b2, b3⟩ := body p e s m args below meth c s₁ B hml hP s₁ hh0 (Stand.of_body B)
    exact ⟨t, o, a1, b1, b2, ⟨b3.1, b3.2⟩⟩
/-- of what is thrown: what no earlier row of a table takes -/
def vk_N (U : State) : Prop := va_Nc "java/lang/IllegalArgumentException" "java/lang/IndexOutOfBoundsException" U ∧ va_Nc "java/lang/IllegalStateException" "java/lang/IndexOutOfBoundsException" U ∧ va_Nc "java/lang/IllegalStateException" "java/lang/IllegalArgumentException" U
theorem vk_N.moved {u U : State} (hv : u.vm.Alike U.vm) (h : vk_N u) : vk_N U := ⟨h.1.moved hv, h.2.1.moved hv, h.2.2.moved hv⟩
def vk_P (D : va_G) (cy : Nat → ClassId) (e0 mi : Nat) (av : List Value) (sz : Nat) (W : va_W) : Array Value → State → Prop := fun a U => vh_P D cy e0 mi av sz W a U ∧ vk_N U
theorem vk_P.blind {D : va_G} {cy : Nat → ClassId} {e0 mi : Nat} {av : List Value} {sz : Nat} {W : va_W} : FrameBlind (vk_P D cy e0 mi av sz W) := fun a U g mk q => ⟨vh_P.blind a U g mk q.1, q.2.moved (U := U.calling g mk a) (Vm.Alike.refl U.vm)⟩
theorem vk_P.preS {D : va_G} {cy : Nat → ClassId} {e0 mi : Nat} {av : List Value} {W : va_W} {A A0 : Nat → Prop} {s : State} {H : Heap} {locs : List Loc} (hE : vg_E D cy s) (hF : vh_F mi s) (hZ : vh_Z cy e0 A0 s s.heap) (hN : vk_N s) (hS : va_S A0 s.heap H locs) (hB : ∀ q, va_A W H.size q → A0 q) (hP : va_P D vwCl W H) (hD : va_D A W) : PreS s H (vk_P D cy e0 mi av H.size W) av := ⟨vk_P.blind, fun U hU hW => ⟨vh_P.of hE hF hZ hS hB hP hD U hU hW, hN.moved hW.alike⟩⟩

set_option maxHeartbeats 4000000 in
set_option maxRecDepth 100000 in
theorem kL_person_ok {S : Type} (l : Launch) (D : va_G) (cy : Nat → ClassId) (sz e0 mi : Nat) (vo : Nat) (a0 : Int32) (oa : Nat) (f : Nat → Int64) (Ww Wc Wr : va_W) (k0 : Nat) (fs : List Value) (hk0 : Ww[k0]? = some (vo, .inr (5, fs))) (hpw : Ww.Perm (wJ Wc Wr)) (W1 : S → va_W) (post : Int32 → S → Prop) {rm : Room} {mc ms : Nat} (hrm : rm.cells = mc ∧ rm.slots = ms ∧ rm.frames ≤ 12 ∧ rm.locals ≤ 314 ∧ mc ≤ 12 ∧ ms ≤ 12351) (hM : ∀ sz : Nat, Met l yX4_person wsX4_person rm (vh_P D cy e0 mi [.ref vo, .int a0] sz Wc) (vg_Qi (S := S) D sz Wc post W1) mc ms (va_A Wc sz)) : Met l yL_person wsL_person ({ frames := 13, cells := 12, slots := 12351, locals := 345 }) (vk_P D cy e0 mi [.ref vo, .int a0, .ref oa] sz (wJ (uOut cy oa f) Ww)) (vg_Qi (S := Int32 × S) D sz (wJ (uOut cy oa f) Ww) (fun r u => r = 0 ∧ post u.1 u.2) (fun u => wJ (uOut cy oa (vp_updL f 0 u.1.toInt64)) (wJ (W1 u.2) Wr))) 12 12351 (va_A (wJ (uOut cy oa f) Ww) sz) := by
  refine vw_ofWH (cc := cL_person) (maxL := 4) (ret := some .int) (hh := [(0, 9, 12, 13), (0, 9, 15, 15)]) (by decide) rfl ?_
  intro p e s m args below meth c s₁ BB hml hv
  obtain ⟨⟨rfl, hsz, hP, hE, hD0, hF, hZ⟩, hN⟩ := hv
  have hx := BB.exec
  have hb := BB.bytes
  have hr := BB.returns
  have hts := atoms_spec (ws := wsL_person) BB.pre
  have hown : s.vm.findClass RL = some m.cls := findClass_of_methodNamed BB.named
  have hlocks := BB.notSynchronized
  subst hsz
  have hD := hD0.self (sz := s.heap.size)
  have hA : ∀ q : Nat, s.heap.size ≤ q → (va_A (wJ (uOut cy oa f) Ww) s.heap.size) q := fun q h => Or.inr h
  have hS : va_S (va_A (wJ (uOut cy oa f) Ww) s.heap.size) s.heap s.heap [] := va_S.rf
  obtain ⟨A0, hA0⟩ : ∃ A0 : Nat → Prop, A0 = va_A (wJ (uOut cy oa f) Ww) s.heap.size := ⟨_, rfl⟩
  rw [← hA0]
  rw [← hA0] at hD hA hS hZ
  have hl := lv_entry ([.ref vo, .int a0, .ref oa]) (n := 4) (Nat.le_of_ble_eq_true rfl)
  rw [lg_entry_eq]
  generalize (lg_sl ([.ref vo, .int a0, .ref oa]) ++ List.replicate (4 - (lg_sl ([.ref vo, .int a0, .ref oa])).length) Slot.unset).toArray = ls at hl ⊢
  have hl : lv_has ls 4 [(0, .ref vo), (1, .int a0), (2, .ref oa)] := hl
  refine lv_aload_n hx hb dL_person_0 rfl (lv_at hl 2 rfl) ?_
  refine lv_iconst (v := 0) hx hb dL_person_1 (by decide) ?_
  refine vg_tp (nI 0) rfl ?_
  refine lv_aload_n hx hb dL_person_2 rfl (lv_at hl 0 rfl) ?_
  refine lv_iload_n hx hb dL_person_3 rfl (lv_at hl 1 rfl) ?_
  have hp9 : (wJ (uOut cy oa f) Ww : va_W).Perm (wJ Wc (wJ (uOut cy oa f) Wr)) := ((List.Perm.append_left (uOut cy oa f) hpw).trans (vp_pc (fun n9 hn9 h90 => by simp only [wJ, hn9, h90, Nat.add_zero, Nat.zero_add] <;> ac_rfl)))
  refine vj_calli (va_runV (As := [.int a0]) (rest := [.int (nI 0), .ref oa]) ⟨hx, hb, hml, hown, hts⟩ (hM s.heap.size) (cwV 1 hts gL_person_X4_person rfl hrm.1 hrm.2.1 (by decide +kernel) ⟨by show rm.frames + 1 ≤ 13; omega, by show 8 + (2 + 11) + rm.locals ≤ 345; omega⟩) (vh_P.preV hE hF hZ hS (vj_free (vd_perm hp9 hD) hS hA) hP (k0 + 1) (by rw [wJ, uOut, List.singleton_append, List.getElem?_cons_succ]; exact hk0) rfl (vp_app.mp (vp_perm hP hp9)).1 (vd_app.mp (vd_perm hp9 hD)).1) rfl rfl hl.1 rfl (lv_room (Nat.le_of_ble_eq_true rfl)) dL_person_4 ⟨by show 0 + mc ≤ 12; omega, by show 0 + ms ≤ 12351; omega⟩) hP hD hS hA hp9 (fun r u H locs hu hP hD hS => ?_)
  have hp7 : (wJ (W1 u) (wJ (uOut cy oa f) Wr) : va_W).Perm (wJ (uOut cy oa f) (wJ (W1 u) Wr)) := (vp_pc (fun n9 hn9 h90 => by simp only [wJ, hn9, h90, Nat.add_zero, Nat.zero_add] <;> ac_rfl))
  have hP : va_P D vwCl (wJ (uOut cy oa f) (wJ (W1 u) Wr)) H := vp_perm hP hp7
  have hD : va_D A0 (wJ (uOut cy oa f) (wJ (W1 u) Wr)) := vd_perm hp7 hD
  refine lv_i2l (v := r.toInt64) hx hb dL_person_7 rfl ?_
  refine vg_last hx hb hE.1 hP hD hS 0 1 rfl rfl (f := f) (j := 0) (by decide) (by decide) dL_person_8 (fun H locs hP hD hS => ?_)
  have hP : va_P D vwCl (wJ (uOut cy oa (vp_updL f 0 r.toInt64)) (wJ (W1 u) Wr)) H := hP
  have hD : va_D A0 (wJ (uOut cy oa (vp_updL f 0 r.toInt64)) (wJ (W1 u) Wr)) := hD
  refine lv_goto (tgt := 18) hx hb dL_person_9 (by decide) ?_
  refine lv_iconst (v := 0) hx hb dL_person_18 (by decide) ?_
  subst hA0
  refine W.widen (k := 12) (n := 12351) (by omega) (by omega) ?_
  exact W.iret (v := 0) hx hb hr (fun t ht hW => ⟨⟨0, (r, u), rfl, ⟨rfl, hu⟩, (by rw [ht]; exact hP), hD⟩, hS.F ht⟩) hS.2.2 dL_person_19

set_option maxHeartbeats 4000000 in
set_option maxRecDepth 100000 in
theorem kL_person_O (l : Launch) (D : va_G) (cy : Nat → ClassId) (sz e0 mi : Nat) (vo : Nat) (a0 : Int32) (oa : Nat) (f : Nat → Int64) (Ww Wc Wr : va_W) (k0 : Nat) (fs : List Value) (hk0 : Ww[k0]? = some (vo, .inr (5, fs))) (hpw : Ww.Perm (wJ Wc Wr)) {rm : Room} {mc ms : Nat} (hrm : rm.cells = mc ∧ rm.slots = ms ∧ rm.frames ≤ 12 ∧ rm.locals ≤ 314 ∧ mc ≤ 12 ∧ ms ≤ 12351) (hM : ∀ sz : Nat, vx_Met l yX4_person wsX4_person rm (vh_P D cy e0 mi [.ref vo, .int a0] sz Wc) (vh_N Wc sz) (vh_X D "java/lang/IndexOutOfBoundsException" Wc sz) mc ms (va_A Wc sz)) : Met l yL_person wsL_person ({ frames := 13, cells := 12, slots := 12351, locals := 345 }) (vk_P D cy e0 mi [.ref vo, .int a0, .ref oa] sz (wJ (uOut cy oa f) Ww)) (vg_Qi (S := Unit) D sz (wJ (uOut cy oa f) Ww) (fun r _ => r = 1) (fun _ => wJ (uOut cy oa f) Ww)) 12 12351 (va_A (wJ (uOut cy oa f) Ww) sz) := by
  refine vw_ofWH (cc := cL_person) (maxL := 4) (ret := some .int) (hh := [(0, 9, 12, 13), (0, 9, 15, 15)]) (by decide) rfl ?_
  intro p e s m args below meth c s₁ BB hml hv
  obtain ⟨⟨rfl, hsz, hP, hE, hD0, hF, hZ⟩, hN⟩ := hv
  have hx := BB.exec
  have hb := BB.bytes
  have hr := BB.returns
  have hts := atoms_spec (ws := wsL_person) BB.pre
  have hown : s.vm.findClass RL = some m.cls := findClass_of_methodNamed BB.named
  have hlocks := BB.notSynchronized
  subst hsz
  have hD := hD0.self (sz := s.heap.size)
  have hA : ∀ q : Nat, s.heap.size ≤ q → (va_A (wJ (uOut cy oa f) Ww) s.heap.size) q := fun q h => Or.inr h
  have hS : va_S (va_A (wJ (uOut cy oa f) Ww) s.heap.size) s.heap s.heap [] := va_S.rf
  obtain ⟨A0, hA0⟩ : ∃ A0 : Nat → Prop, A0 = va_A (wJ (uOut cy oa f) Ww) s.heap.size := ⟨_, rfl⟩
  rw [← hA0]
  rw [← hA0] at hD hA hS hZ
  have hl := lv_entry ([.ref vo, .int a0, .ref oa]) (n := 4) (Nat.le_of_ble_eq_true rfl)
  rw [lg_entry_eq]
  generalize (lg_sl ([.ref vo, .int a0, .ref oa]) ++ List.replicate (4 - (lg_sl ([.ref vo, .int a0, .ref oa])).length) Slot.unset).toArray = ls at hl ⊢
  have hl : lv_has ls 4 [(0, .ref vo), (1, .int a0), (2, .ref oa)] := hl
  refine lv_aload_n hx hb dL_person_0 rfl (lv_at hl 2 rfl) ?_
  refine lv_iconst (v := 0) hx hb dL_person_1 (by decide) ?_
  refine vg_tp (nI 0) rfl ?_
  refine lv_aload_n hx hb dL_person_2 rfl (lv_at hl 0 rfl) ?_
  refine lv_iload_n hx hb dL_person_3 rfl (lv_at hl 1 rfl) ?_
  have hp9 : (wJ (uOut cy oa f) Ww : va_W).Perm (wJ Wc (wJ (uOut cy oa f) Wr)) := ((List.Perm.append_left (uOut cy oa f) hpw).trans (vp_pc (fun n9 hn9 h90 => by simp only [wJ, hn9, h90, Nat.add_zero, Nat.zero_add] <;> ac_rfl)))
  have hP8 := vp_perm hP hp9
  have hD8 := vd_perm hp9 hD
  have hF8 := vj_free hD8 hS hA
  have hDc : va_D (va_A Wc s.heap.size) Wc := ((vd_app.mp hD8).1.weaken (fun _ _ _ _ => trivial) : va_D (fun _ => True) Wc).self (sz := s.heap.size)
  refine vx_callv (vx_runV (As := [.int a0]) (rest := [.int (nI 0), .ref oa]) ⟨hx, hb, hml, hown, hts⟩ (hM s.heap.size) (cwV 1 hts gL_person_X4_person rfl hrm.1 hrm.2.1 (by decide +kernel) ⟨by show rm.frames + 1 ≤ 13; omega, by show 8 + (2 + 11) + rm.locals ≤ 345; omega⟩) (vh_P.preV hE hF hZ hS (vj_free (vd_perm hp9 hD) hS hA) hP (k0 + 1) (by rw [wJ, uOut, List.singleton_append, List.getElem?_cons_succ]; exact hk0) rfl (vp_app.mp (vp_perm hP hp9)).1 (vd_app.mp (vd_perm hp9 hD)).1) rfl rfl hl.1 rfl (lv_room (Nat.le_of_ble_eq_true rfl)) dL_person_4 ⟨by show 0 + mc ≤ 12; omega, by show 0 + ms ≤ 12351; omega⟩) hS (fun q _ h => hF8 q h) hF8 (fun q _ h => hF8 q h) (fun E9 ce q9 u t H1 locs1 ht1 hvm _ hB hz hk hS1 hce hcv hcl => ?_) (fun u t H1 locs1 _ _ hpost => hpost.elim)
  obtain ⟨rfl, hP1⟩ := hB
  rw [ht1] at hP1
  obtain ⟨a81, a82⟩ := vj_join hP8 hD8 hk hF8 hP1 hDc
  have hP : va_P D vwCl (wJ (uOut cy oa f) Ww) H1 := vp_perm a81 hp9.symm
  have hD : va_D A0 (wJ (uOut cy oa f) Ww) := vd_perm hp9.symm a82
  have htab : c.exceptionTable.toList = tableOf [(0, 9, 12, 13), (0, 9, 15, 15)] := vx_table (x := yL_person) BB (hts _ List.mem_cons_self)
  refine vx_catch (own := RL) (name := "java/lang/IndexOutOfBoundsException") hown (tableOf []) ⟨0, 9, 12, 13⟩ (tableOf [(0, 9, 15, 15)]) (by rw [htab]; rfl) (fun z hz => nomatch hz) (by decide) (by decide) (hts (.classLink RL 13 "java/lang/IndexOutOfBoundsException") (by decide +kernel)) (va_Nw.use rfl (hF.2.2.2.2.2 (.castable "java/lang/IndexOutOfBoundsException" "java/lang/IndexOutOfBoundsException") (by decide +kernel))) hce hcv hcl ?_
  refine lv_astore_n (lv' := [(3, .ref q9), (0, .ref vo), (1, .int a0), (2, .ref oa)]) hx hb dL_person_12 rfl hl (by decide) rfl (fun ls hl => ?_)
  refine lv_iconst (v := 1) hx hb dL_person_13 (by decide) ?_
  subst hA0
  refine W.widen (k := 12) (n := 12351) (by omega) (by omega) ?_
  exact W.iret (v := 1) hx hb hr (fun t ht hW => ⟨⟨1, (), rfl, rfl, (by rw [ht]; exact hP), hD⟩, hS1.F ht⟩) hS1.2.2 dL_person_14

set_option maxHeartbeats 4000000 in
set_option maxRecDepth 100000 in
theorem kL_person_S (l : Launch) (D : va_G) (cy : Nat → ClassId) (sz e0 mi : Nat) (vo : Nat) (a0 : Int32) (oa : Nat) (f : Nat → Int64) (Ww Wc Wr : va_W) (k0 : Nat) (fs : List Value) (hk0 : Ww[k0]? = some (vo, .inr (5, fs))) (hpw : Ww.Perm (wJ Wc Wr)) {rm : Room} {mc ms : Nat} (hrm : rm.cells = mc ∧ rm.slots = ms ∧ rm.frames ≤ 12 ∧ rm.locals ≤ 314 ∧ mc ≤ 12 ∧ ms ≤ 12351) (hM : ∀ sz : Nat, vx_Met l yX4_person wsX4_person rm (vh_P D cy e0 mi [.ref vo, .int a0] sz Wc) (vh_N Wc sz) (vh_X D "java/lang/IllegalStateException" Wc sz) mc ms (va_A Wc sz)) : Met l yL_person wsL_person ({ frames := 13, cells := 12, slots := 12351, locals := 345 }) (vk_P D cy e0 mi [.ref vo, .int a0, .ref oa] sz (wJ (uOut cy oa f) Ww)) (vg_Qi (S := Unit) D sz (wJ (uOut cy oa f) Ww) (fun r _ => r = 2) (fun _ => wJ (uOut cy oa f) Ww)) 12 12351 (va_A (wJ (uOut cy oa f) Ww) sz) := by
  refine vw_ofWH (cc := cL_person) (maxL := 4) (ret := some .int) (hh := [(0, 9, 12, 13), (0, 9, 15, 15)]) (by decide) rfl ?_
  intro p e s m args below meth c s₁ BB hml hv
  obtain ⟨⟨rfl, hsz, hP, hE, hD0, hF, hZ⟩, hN⟩ := hv
  have hx := BB.exec
  have hb := BB.bytes
  have hr := BB.returns
  have hts := atoms_spec (ws := wsL_person) BB.pre
  have hown : s.vm.findClass RL = some m.cls := findClass_of_methodNamed BB.named
  have hlocks := BB.notSynchronized
  subst hsz
  have hD := hD0.self (sz := s.heap.size)
  have hA : ∀ q : Nat, s.heap.size ≤ q → (va_A (wJ (uOut cy oa f) Ww) s.heap.size) q := fun q h => Or.inr h
  have hS : va_S (va_A (wJ (uOut cy oa f) Ww) s.heap.size) s.heap s.heap [] := va_S.rf
  obtain ⟨A0, hA0⟩ : ∃ A0 : Nat → Prop, A0 = va_A (wJ (uOut cy oa f) Ww) s.heap.size := ⟨_, rfl⟩
  rw [← hA0]
  rw [← hA0] at hD hA hS hZ
  have hl := lv_entry ([.ref vo, .int a0, .ref oa]) (n := 4) (Nat.le_of_ble_eq_true rfl)
  rw [lg_entry_eq]
  generalize (lg_sl ([.ref vo, .int a0, .ref oa]) ++ List.replicate (4 - (lg_sl ([.ref vo, .int a0, .ref oa])).length) Slot.unset).toArray = ls at hl ⊢
  have hl : lv_has ls 4 [(0, .ref vo), (1, .int a0), (2, .ref oa)] := hl
  refine lv_aload_n hx hb dL_person_0 rfl (lv_at hl 2 rfl) ?_
  refine lv_iconst (v := 0) hx hb dL_person_1 (by decide) ?_
  refine vg_tp (nI 0) rfl ?_
  refine lv_aload_n hx hb dL_person_2 rfl (lv_at hl 0 rfl) ?_
  refine lv_iload_n hx hb dL_person_3 rfl (lv_at hl 1 rfl) ?_
  have hp9 : (wJ (uOut cy oa f) Ww : va_W).Perm (wJ Wc (wJ (uOut cy oa f) Wr)) := ((List.Perm.append_left (uOut cy oa f) hpw).trans (vp_pc (fun n9 hn9 h90 => by simp only [wJ, hn9, h90, Nat.add_zero, Nat.zero_add] <;> ac_rfl)))
  have hP8 := vp_perm hP hp9
  have hD8 := vd_perm hp9 hD
  have hF8 := vj_free hD8 hS hA
  have hDc : va_D (va_A Wc s.heap.size) Wc := ((vd_app.mp hD8).1.weaken (fun _ _ _ _ => trivial) : va_D (fun _ => True) Wc).self (sz := s.heap.size)
  refine vx_callv (vx_runV (As := [.int a0]) (rest := [.int (nI 0), .ref oa]) ⟨hx, hb, hml, hown, hts⟩ (hM s.heap.size) (cwV 1 hts gL_person_X4_person rfl hrm.1 hrm.2.1 (by decide +kernel) ⟨by show rm.frames + 1 ≤ 13; omega, by show 8 + (2 + 11) + rm.locals ≤ 345; omega⟩) (vh_P.preV hE hF hZ hS (vj_free (vd_perm hp9 hD) hS hA) hP (k0 + 1) (by rw [wJ, uOut, List.singleton_append, List.getElem?_cons_succ]; exact hk0) rfl (vp_app.mp (vp_perm hP hp9)).1 (vd_app.mp (vd_perm hp9 hD)).1) rfl rfl hl.1 rfl (lv_room (Nat.le_of_ble_eq_true rfl)) dL_person_4 ⟨by show 0 + mc ≤ 12; omega, by show 0 + ms ≤ 12351; omega⟩) hS (fun q _ h => hF8 q h) hF8 (fun q _ h => hF8 q h) (fun E9 ce q9 u t H1 locs1 ht1 hvm _ hB hz hk hS1 hce hcv hcl => ?_) (fun u t H1 locs1 _ _ hpost => hpost.elim)
  obtain ⟨rfl, hP1⟩ := hB
  rw [ht1] at hP1
  obtain ⟨a81, a82⟩ := vj_join hP8 hD8 hk hF8 hP1 hDc
  have hP : va_P D vwCl (wJ (uOut cy oa f) Ww) H1 := vp_perm a81 hp9.symm
  have hD : va_D A0 (wJ (uOut cy oa f) Ww) := vd_perm hp9.symm a82
  have htab : c.exceptionTable.toList = tableOf [(0, 9, 12, 13), (0, 9, 15, 15)] := vx_table (x := yL_person) BB (hts _ List.mem_cons_self)
  refine vx_catch (own := RL) (name := "java/lang/IllegalStateException") hown (tableOf [(0, 9, 12, 13)]) ⟨0, 9, 15, 15⟩ (tableOf []) (by rw [htab]; rfl) ?_ (by decide) (by decide) (hts (.classLink RL 15 "java/lang/IllegalStateException") (by decide +kernel)) (va_Nw.use rfl (hF.2.2.2.2.2 (.castable "java/lang/IllegalStateException" "java/lang/IllegalStateException") (by decide +kernel))) hce hcv hcl ?_
  · intro z hz
    simp only [tableOf, List.map_cons, List.map_nil, List.mem_cons, List.not_mem_nil, or_false] at hz
    rcases hz with rfl
    · exact Or.inr ⟨by decide, "java/lang/IndexOutOfBoundsException", hts (.classLink RL 13 "java/lang/IndexOutOfBoundsException") (by decide +kernel), hN.2.1⟩
  refine lv_astore_n (lv' := [(3, .ref q9), (0, .ref vo), (1, .int a0), (2, .ref oa)]) hx hb dL_person_15 rfl hl (by decide) rfl (fun ls hl => ?_)
  refine lv_iconst (v := 2) hx hb dL_person_16 (by decide) ?_
  subst hA0
  refine W.widen (k := 12) (n := 12351) (by omega) (by omega) ?_
  exact W.iret (v := 2) hx hb hr (fun t ht hW => ⟨⟨2, (), rfl, rfl, (by rw [ht]; exact hP), hD⟩, hS1.F ht⟩) hS1.2.2 dL_person_17

set_option maxHeartbeats 4000000 in
set_option maxRecDepth 100000 in
theorem kL_follow_ok {S : Type} (l : Launch) (D : va_G) (cy : Nat → ClassId) (sz e0 mi : Nat) (vo : Nat) (a0 : Int32) (a1 : Int32)  (Ww Wc Wr : va_W) (k0 : Nat) (fs : List Value) (hk0 : Ww[k0]? = some (vo, .inr (5, fs))) (hpw : Ww.Perm (wJ Wc Wr)) (W1 : S → va_W) (post : S → Prop) {rm : Room} {mc ms : Nat} (hrm : rm.cells = mc ∧ rm.slots = ms ∧ rm.frames ≤ 12 ∧ rm.locals ≤ 314 ∧ mc ≤ 12 ∧ ms ≤ 12351) (hM : ∀ sz : Nat, Met l yX4_follow wsX4_follow rm (vh_P D cy e0 mi [.ref vo, .int a0, .int a1] sz Wc) (vg_Qv (S := S) D sz Wc post W1) mc ms (va_A Wc sz)) : Met l yL_follow wsL_follow ({ frames := 13, cells := 12, slots := 12351, locals := 345 }) (vk_P D cy e0 mi [.ref vo, .int a0, .int a1] sz (Ww)) (vg_Qi (S := S) D sz (Ww) (fun r u => r = 0 ∧ post u) (fun u => wJ (W1 u) Wr)) 12 12351 (va_A (Ww) sz) := by
  refine vw_ofWH (cc := cL_follow) (maxL := 4) (ret := some .int) (hh := [(0, 6, 9, 13), (0, 6, 12, 21), (0, 6, 15, 15)]) (by decide) rfl ?_
  intro p e s m args below meth c s₁ BB hml hv
  obtain ⟨⟨rfl, hsz, hP, hE, hD0, hF, hZ⟩, hN⟩ := hv
  have hx := BB.exec
  have hb := BB.bytes
  have hr := BB.returns
  have hts := atoms_spec (ws := wsL_follow) BB.pre
  have hown : s.vm.findClass RL = some m.cls := findClass_of_methodNamed BB.named
  have hlocks := BB.notSynchronized
  subst hsz
  have hD := hD0.self (sz := s.heap.size)
  have hA : ∀ q : Nat, s.heap.size ≤ q → (va_A (Ww) s.heap.size) q := fun q h => Or.inr h
  have hS : va_S (va_A (Ww) s.heap.size) s.heap s.heap [] := va_S.rf
  obtain ⟨A0, hA0⟩ : ∃ A0 : Nat → Prop, A0 = va_A (Ww) s.heap.size := ⟨_, rfl⟩
  rw [← hA0]
  rw [← hA0] at hD hA hS hZ
  have hl := lv_entry ([.ref vo, .int a0, .int a1]) (n := 4) (Nat.le_of_ble_eq_true rfl)
  rw [lg_entry_eq]
  generalize (lg_sl ([.ref vo, .int a0, .int a1]) ++ List.replicate (4 - (lg_sl ([.ref vo, .int a0, .int a1])).length) Slot.unset).toArray = ls at hl ⊢
  have hl : lv_has ls 4 [(0, .ref vo), (1, .int a0), (2, .int a1)] := hl
  refine lv_aload_n hx hb dL_follow_0 rfl (lv_at hl 0 rfl) ?_
  refine lv_iload_n hx hb dL_follow_1 rfl (lv_at hl 1 rfl) ?_
  refine lv_iload_n hx hb dL_follow_2 rfl (lv_at hl 2 rfl) ?_
  refine vj_callv (va_runV (As := [.int a0, .int a1]) (rest := []) ⟨hx, hb, hml, hown, hts⟩ (hM s.heap.size) (cwV 2 hts gL_follow_X4_follow rfl hrm.1 hrm.2.1 (by decide +kernel) ⟨by show rm.frames + 1 ≤ 13; omega, by show 8 + (4 + 11) + rm.locals ≤ 345; omega⟩) (vh_P.preV hE hF hZ hS (vj_free (vd_perm hpw hD) hS hA) hP k0 hk0 rfl (vp_app.mp (vp_perm hP hpw)).1 (vd_app.mp (vd_perm hpw hD)).1) rfl rfl hl.1 rfl (lv_room (Nat.le_of_ble_eq_true rfl)) dL_follow_3 ⟨by show 0 + mc ≤ 12; omega, by show 0 + ms ≤ 12351; omega⟩) hP hD hS hA hpw (fun u H locs hu hP hD hS => ?_)
  refine lv_goto (tgt := 18) hx hb dL_follow_6 (by decide) ?_
  refine lv_iconst (v := 0) hx hb dL_follow_18 (by decide) ?_
  subst hA0
  refine W.widen (k := 12) (n := 12351) (by omega) (by omega) ?_
  exact W.iret (v := 0) hx hb hr (fun t ht hW => ⟨⟨0, u, rfl, ⟨rfl, hu⟩, (by rw [ht]; exact hP), hD⟩, hS.F ht⟩) hS.2.2 dL_follow_19

set_option maxHeartbeats 4000000 in
set_option maxRecDepth 100000 in
theorem kL_follow_O (l : Launch) (D : va_G) (cy : Nat → ClassId) (sz e0 mi : Nat) (vo : Nat) (a0 : Int32) (a1 : Int32)  (Ww Wc Wr : va_W) (k0 : Nat) (fs : List Value) (hk0 : Ww[k0]? = some (vo, .inr (5, fs))) (hpw : Ww.Perm (wJ Wc Wr)) {rm : Room} {mc ms : Nat} (hrm : rm.cells = mc ∧ rm.slots = ms ∧ rm.frames ≤ 12 ∧ rm.locals ≤ 314 ∧ mc ≤ 12 ∧ ms ≤ 12351) (hM : ∀ sz : Nat, vx_Met l yX4_follow wsX4_follow rm (vh_P D cy e0 mi [.ref vo, .int a0, .int a1] sz Wc) (vh_N Wc sz) (vh_X D "java/lang/IndexOutOfBoundsException" Wc sz) mc ms (va_A Wc sz)) : Met l yL_follow wsL_follow ({ frames := 13, cells := 12, slots := 12351, locals := 345 }) (vk_P D cy e0 mi [.ref vo, .int a0, .int a1] sz (Ww)) (vg_Qi (S := Unit) D sz (Ww) (fun r _ => r = 1) (fun _ => Ww)) 12 12351 (va_A (Ww) sz) := by
  refine vw_ofWH (cc := cL_follow) (maxL := 4) (ret := some .int) (hh := [(0, 6, 9, 13), (0, 6, 12, 21), (0, 6, 15, 15)]) (by decide) rfl ?_
  intro p e s m args below meth c s₁ BB hml hv
  obtain ⟨⟨rfl, hsz, hP, hE, hD0, hF, hZ⟩, hN⟩ := hv
  have hx := BB.exec
  have hb := BB.bytes
  have hr := BB.returns
  have hts := atoms_spec (ws := wsL_follow) BB.pre
  have hown : s.vm.findClass RL = some m.cls := findClass_of_methodNamed BB.named
  have hlocks := BB.notSynchronized
  subst hsz
  have hD := hD0.self (sz := s.heap.size)
  have hA : ∀ q : Nat, s.heap.size ≤ q → (va_A (Ww) s.heap.size) q := fun q h => Or.inr h
  have hS : va_S (va_A (Ww) s.heap.size) s.heap s.heap [] := va_S.rf
  obtain ⟨A0, hA0⟩ : ∃ A0 : Nat → Prop, A0 = va_A (Ww) s.heap.size := ⟨_, rfl⟩
  rw [← hA0]
  rw [← hA0] at hD hA hS hZ
  have hl := lv_entry ([.ref vo, .int a0, .int a1]) (n := 4) (Nat.le_of_ble_eq_true rfl)
  rw [lg_entry_eq]
  generalize (lg_sl ([.ref vo, .int a0, .int a1]) ++ List.replicate (4 - (lg_sl ([.ref vo, .int a0, .int a1])).length) Slot.unset).toArray = ls at hl ⊢
  have hl : lv_has ls 4 [(0, .ref vo), (1, .int a0), (2, .int a1)] := hl
  refine lv_aload_n hx hb dL_follow_0 rfl (lv_at hl 0 rfl) ?_
  refine lv_iload_n hx hb dL_follow_1 rfl (lv_at hl 1 rfl) ?_
  refine lv_iload_n hx hb dL_follow_2 rfl (lv_at hl 2 rfl) ?_
  have hP8 := vp_perm hP hpw
  have hD8 := vd_perm hpw hD
  have hF8 := vj_free hD8 hS hA
  have hDc : va_D (va_A Wc s.heap.size) Wc := ((vd_app.mp hD8).1.weaken (fun _ _ _ _ => trivial) : va_D (fun _ => True) Wc).self (sz := s.heap.size)
  refine vx_callv (vx_runV (As := [.int a0, .int a1]) (rest := []) ⟨hx, hb, hml, hown, hts⟩ (hM s.heap.size) (cwV 2 hts gL_follow_X4_follow rfl hrm.1 hrm.2.1 (by decide +kernel) ⟨by show rm.frames + 1 ≤ 13; omega, by show 8 + (4 + 11) + rm.locals ≤ 345; omega⟩) (vh_P.preV hE hF hZ hS (vj_free (vd_perm hpw hD) hS hA) hP k0 hk0 rfl (vp_app.mp (vp_perm hP hpw)).1 (vd_app.mp (vd_perm hpw hD)).1) rfl rfl hl.1 rfl (lv_room (Nat.le_of_ble_eq_true rfl)) dL_follow_3 ⟨by show 0 + mc ≤ 12; omega, by show 0 + ms ≤ 12351; omega⟩) hS (fun q _ h => hF8 q h) hF8 (fun q _ h => hF8 q h) (fun E9 ce q9 u t H1 locs1 ht1 hvm _ hB hz hk hS1 hce hcv hcl => ?_) (fun u t H1 locs1 _ _ hpost => hpost.elim)
  obtain ⟨rfl, hP1⟩ := hB
  rw [ht1] at hP1
  obtain ⟨a81, a82⟩ := vj_join hP8 hD8 hk hF8 hP1 hDc
  have hP : va_P D vwCl (Ww) H1 := vp_perm a81 hpw.symm
  have hD : va_D A0 (Ww) := vd_perm hpw.symm a82
  have htab : c.exceptionTable.toList = tableOf [(0, 6, 9, 13), (0, 6, 12, 21), (0, 6, 15, 15)] := vx_table (x := yL_follow) BB (hts _ List.mem_cons_self)
  refine vx_catch (own := RL) (name := "java/lang/IndexOutOfBoundsException") hown (tableOf []) ⟨0, 6, 9, 13⟩ (tableOf [(0, 6, 12, 21), (0, 6, 15, 15)]) (by rw [htab]; rfl) (fun z hz => nomatch hz) (by decide) (by decide) (hts (.classLink RL 13 "java/lang/IndexOutOfBoundsException") (by decide +kernel)) (va_Nw.use rfl (hF.2.2.2.2.2 (.castable "java/lang/IndexOutOfBoundsException" "java/lang/IndexOutOfBoundsException") (by decide +kernel))) hce hcv hcl ?_
  refine lv_astore_n (lv' := [(3, .ref q9), (0, .ref vo), (1, .int a0), (2, .int a1)]) hx hb dL_follow_9 rfl hl (by decide) rfl (fun ls hl => ?_)
  refine lv_iconst (v := 1) hx hb dL_follow_10 (by decide) ?_
  subst hA0
  refine W.widen (k := 12) (n := 12351) (by omega) (by omega) ?_
  exact W.iret (v := 1) hx hb hr (fun t ht hW => ⟨⟨1, (), rfl, rfl, (by rw [ht]; exact hP), hD⟩, hS1.F ht⟩) hS1.2.2 dL_follow_11

set_option maxHeartbeats 4000000 in
set_option maxRecDepth 100000 in
theorem kL_follow_A (l : Launch) (D : va_G) (cy : Nat → ClassId) (sz e0 mi : Nat) (vo : Nat) (a0 : Int32) (a1 : Int32)  (Ww Wc Wr : va_W) (k0 : Nat) (fs : List Value) (hk0 : Ww[k0]? = some (vo, .inr (5, fs))) (hpw : Ww.Perm (wJ Wc Wr)) {rm : Room} {mc ms : Nat} (hrm : rm.cells = mc ∧ rm.slots = ms ∧ rm.frames ≤ 12 ∧ rm.locals ≤ 314 ∧ mc ≤ 12 ∧ ms ≤ 12351) (hM : ∀ sz : Nat, vx_Met l yX4_follow wsX4_follow rm (vh_P D cy e0 mi [.ref vo, .int a0, .int a1] sz Wc) (vh_N Wc sz) (vh_X D "java/lang/IllegalArgumentException" Wc sz) mc ms (va_A Wc sz)) : Met l yL_follow wsL_follow ({ frames := 13, cells := 12, slots := 12351, locals := 345 }) (vk_P D cy e0 mi [.ref vo, .int a0, .int a1] sz (Ww)) (vg_Qi (S := Unit) D sz (Ww) (fun r _ => r = 2) (fun _ => Ww)) 12 12351 (va_A (Ww) sz) := by
  refine vw_ofWH (cc := cL_follow) (maxL := 4) (ret := some .int) (hh := [(0, 6, 9, 13), (0, 6, 12, 21), (0, 6, 15, 15)]) (by decide) rfl ?_
  intro p e s m args below meth c s₁ BB hml hv
  obtain ⟨⟨rfl, hsz, hP, hE, hD0, hF, hZ⟩, hN⟩ := hv
  have hx := BB.exec
  have hb := BB.bytes
  have hr := BB.returns
  have hts := atoms_spec (ws := wsL_follow) BB.pre
  have hown : s.vm.findClass RL = some m.cls := findClass_of_methodNamed BB.named
  have hlocks := BB.notSynchronized
  subst hsz
  have hD := hD0.self (sz := s.heap.size)
  have hA : ∀ q : Nat, s.heap.size ≤ q → (va_A (Ww) s.heap.size) q := fun q h => Or.inr h
  have hS : va_S (va_A (Ww) s.heap.size) s.heap s.heap [] := va_S.rf
  obtain ⟨A0, hA0⟩ : ∃ A0 : Nat → Prop, A0 = va_A (Ww) s.heap.size := ⟨_, rfl⟩
  rw [← hA0]
  rw [← hA0] at hD hA hS hZ
  have hl := lv_entry ([.ref vo, .int a0, .int a1]) (n := 4) (Nat.le_of_ble_eq_true rfl)
  rw [lg_entry_eq]
  generalize (lg_sl ([.ref vo, .int a0, .int a1]) ++ List.replicate (4 - (lg_sl ([.ref vo, .int a0, .int a1])).length) Slot.unset).toArray = ls at hl ⊢
  have hl : lv_has ls 4 [(0, .ref vo), (1, .int a0), (2, .int a1)] := hl
  refine lv_aload_n hx hb dL_follow_0 rfl (lv_at hl 0 rfl) ?_
  refine lv_iload_n hx hb dL_follow_1 rfl (lv_at hl 1 rfl) ?_
  refine lv_iload_n hx hb dL_follow_2 rfl (lv_at hl 2 rfl) ?_
  have hP8 := vp_perm hP hpw
  have hD8 := vd_perm hpw hD
  have hF8 := vj_free hD8 hS hA
  have hDc : va_D (va_A Wc s.heap.size) Wc := ((vd_app.mp hD8).1.weaken (fun _ _ _ _ => trivial) : va_D (fun _ => True) Wc).self (sz := s.heap.size)
  refine vx_callv (vx_runV (As := [.int a0, .int a1]) (rest := []) ⟨hx, hb, hml, hown, hts⟩ (hM s.heap.size) (cwV 2 hts gL_follow_X4_follow rfl hrm.1 hrm.2.1 (by decide +kernel) ⟨by show rm.frames + 1 ≤ 13; omega, by show 8 + (4 + 11) + rm.locals ≤ 345; omega⟩) (vh_P.preV hE hF hZ hS (vj_free (vd_perm hpw hD) hS hA) hP k0 hk0 rfl (vp_app.mp (vp_perm hP hpw)).1 (vd_app.mp (vd_perm hpw hD)).1) rfl rfl hl.1 rfl (lv_room (Nat.le_of_ble_eq_true rfl)) dL_follow_3 ⟨by show 0 + mc ≤ 12; omega, by show 0 + ms ≤ 12351; omega⟩) hS (fun q _ h => hF8 q h) hF8 (fun q _ h => hF8 q h) (fun E9 ce q9 u t H1 locs1 ht1 hvm _ hB hz hk hS1 hce hcv hcl => ?_) (fun u t H1 locs1 _ _ hpost => hpost.elim)
  obtain ⟨rfl, hP1⟩ := hB
  rw [ht1] at hP1
  obtain ⟨a81, a82⟩ := vj_join hP8 hD8 hk hF8 hP1 hDc
  have hP : va_P D vwCl (Ww) H1 := vp_perm a81 hpw.symm
  have hD : va_D A0 (Ww) := vd_perm hpw.symm a82
  have htab : c.exceptionTable.toList = tableOf [(0, 6, 9, 13), (0, 6, 12, 21), (0, 6, 15, 15)] := vx_table (x := yL_follow) BB (hts _ List.mem_cons_self)
  refine vx_catch (own := RL) (name := "java/lang/IllegalArgumentException") hown (tableOf [(0, 6, 9, 13)]) ⟨0, 6, 12, 21⟩ (tableOf [(0, 6, 15, 15)]) (by rw [htab]; rfl) ?_ (by decide) (by decide) (hts (.classLink RL 21 "java/lang/IllegalArgumentException") (by decide +kernel)) (va_Nw.use rfl (hF.2.2.2.2.2 (.castable "java/lang/IllegalArgumentException" "java/lang/IllegalArgumentException") (by decide +kernel))) hce hcv hcl ?_
  · intro z hz
    simp only [tableOf, List.map_cons, List.map_nil, List.mem_cons, List.not_mem_nil, or_false] at hz
    rcases hz with rfl
    · exact Or.inr ⟨by decide, "java/lang/IndexOutOfBoundsException", hts (.classLink RL 13 "java/lang/IndexOutOfBoundsException") (by decide +kernel), hN.1⟩
  refine lv_astore_n (lv' := [(3, .ref q9), (0, .ref vo), (1, .int a0), (2, .int a1)]) hx hb dL_follow_12 rfl hl (by decide) rfl (fun ls hl => ?_)
  refine lv_iconst (v := 2) hx hb dL_follow_13 (by decide) ?_
  subst hA0
  refine W.widen (k := 12) (n := 12351) (by omega) (by omega) ?_
  exact W.iret (v := 2) hx hb hr (fun t ht hW => ⟨⟨2, (), rfl, rfl, (by rw [ht]; exact hP), hD⟩, hS1.F ht⟩) hS1.2.2 dL_follow_14

set_option maxHeartbeats 4000000 in
set_option maxRecDepth 100000 in
theorem kL_follow_S (l : Launch) (D : va_G) (cy : Nat → ClassId) (sz e0 mi : Nat) (vo : Nat) (a0 : Int32) (a1 : Int32)  (Ww Wc Wr : va_W) (k0 : Nat) (fs : List Value) (hk0 : Ww[k0]? = some (vo, .inr (5, fs))) (hpw : Ww.Perm (wJ Wc Wr)) {rm : Room} {mc ms : Nat} (hrm : rm.cells = mc ∧ rm.slots = ms ∧ rm.frames ≤ 12 ∧ rm.locals ≤ 314 ∧ mc ≤ 12 ∧ ms ≤ 12351) (hM : ∀ sz : Nat, vx_Met l yX4_follow wsX4_follow rm (vh_P D cy e0 mi [.ref vo, .int a0, .int a1] sz Wc) (vh_N Wc sz) (vh_X D "java/lang/IllegalStateException" Wc sz) mc ms (va_A Wc sz)) : Met l yL_follow wsL_follow ({ frames := 13, cells := 12, slots := 12351, locals := 345 }) (vk_P D cy e0 mi [.ref vo, .int a0, .int a1] sz (Ww)) (vg_Qi (S := Unit) D sz (Ww) (fun r _ => r = 3) (fun _ => Ww)) 12 12351 (va_A (Ww) sz) := by
  refine vw_ofWH (cc := cL_follow) (maxL := 4) (ret := some .int) (hh := [(0, 6, 9, 13), (0, 6, 12, 21), (0, 6, 15, 15)]) (by decide) rfl ?_
  intro p e s m args below meth c s₁ BB hml hv
  obtain ⟨⟨rfl, hsz, hP, hE, hD0, hF, hZ⟩, hN⟩ := hv
  have hx := BB.exec
  have hb := BB.bytes
  have hr := BB.returns
  have hts := atoms_spec (ws := wsL_follow) BB.pre
  have hown : s.vm.findClass RL = some m.cls := findClass_of_methodNamed BB.named
  have hlocks := BB.notSynchronized
  subst hsz
  have hD := hD0.self (sz := s.heap.size)
  have hA : ∀ q : Nat, s.heap.size ≤ q → (va_A (Ww) s.heap.size) q := fun q h => Or.inr h
  have hS : va_S (va_A (Ww) s.heap.size) s.heap s.heap [] := va_S.rf
  obtain ⟨A0, hA0⟩ : ∃ A0 : Nat → Prop, A0 = va_A (Ww) s.heap.size := ⟨_, rfl⟩
  rw [← hA0]
  rw [← hA0] at hD hA hS hZ
  have hl := lv_entry ([.ref vo, .int a0, .int a1]) (n := 4) (Nat.le_of_ble_eq_true rfl)
  rw [lg_entry_eq]
  generalize (lg_sl ([.ref vo, .int a0, .int a1]) ++ List.replicate (4 - (lg_sl ([.ref vo, .int a0, .int a1])).length) Slot.unset).toArray = ls at hl ⊢
  have hl : lv_has ls 4 [(0, .ref vo), (1, .int a0), (2, .int a1)] := hl
  refine lv_aload_n hx hb dL_follow_0 rfl (lv_at hl 0 rfl) ?_
  refine lv_iload_n hx hb dL_follow_1 rfl (lv_at hl 1 rfl) ?_
  refine lv_iload_n hx hb dL_follow_2 rfl (lv_at hl 2 rfl) ?_
  have hP8 := vp_perm hP hpw
  have hD8 := vd_perm hpw hD
  have hF8 := vj_free hD8 hS hA
  have hDc : va_D (va_A Wc s.heap.size) Wc := ((vd_app.mp hD8).1.weaken (fun _ _ _ _ => trivial) : va_D (fun _ => True) Wc).self (sz := s.heap.size)
  refine vx_callv (vx_runV (As := [.int a0, .int a1]) (rest := []) ⟨hx, hb, hml, hown, hts⟩ (hM s.heap.size) (cwV 2 hts gL_follow_X4_follow rfl hrm.1 hrm.2.1 (by decide +kernel) ⟨by show rm.frames + 1 ≤ 13; omega, by show 8 + (4 + 11) + rm.locals ≤ 345; omega⟩) (vh_P.preV hE hF hZ hS (vj_free (vd_perm hpw hD) hS hA) hP k0 hk0 rfl (vp_app.mp (vp_perm hP hpw)).1 (vd_app.mp (vd_perm hpw hD)).1) rfl rfl hl.1 rfl (lv_room (Nat.le_of_ble_eq_true rfl)) dL_follow_3 ⟨by show 0 + mc ≤ 12; omega, by show 0 + ms ≤ 12351; omega⟩) hS (fun q _ h => hF8 q h) hF8 (fun q _ h => hF8 q h) (fun E9 ce q9 u t H1 locs1 ht1 hvm _ hB hz hk hS1 hce hcv hcl => ?_) (fun u t H1 locs1 _ _ hpost => hpost.elim)
  obtain ⟨rfl, hP1⟩ := hB
  rw [ht1] at hP1
  obtain ⟨a81, a82⟩ := vj_join hP8 hD8 hk hF8 hP1 hDc
  have hP : va_P D vwCl (Ww) H1 := vp_perm a81 hpw.symm
  have hD : va_D A0 (Ww) := vd_perm hpw.symm a82
  have htab : c.exceptionTable.toList = tableOf [(0, 6, 9, 13), (0, 6, 12, 21), (0, 6, 15, 15)] := vx_table (x := yL_follow) BB (hts _ List.mem_cons_self)
  refine vx_catch (own := RL) (name := "java/lang/IllegalStateException") hown (tableOf [(0, 6, 9, 13), (0, 6, 12, 21)]) ⟨0, 6, 15, 15⟩ (tableOf []) (by rw [htab]; rfl) ?_ (by decide) (by decide) (hts (.classLink RL 15 "java/lang/IllegalStateException") (by decide +kernel)) (va_Nw.use rfl (hF.2.2.2.2.2 (.castable "java/lang/IllegalStateException" "java/lang/IllegalStateException") (by decide +kernel))) hce hcv hcl ?_
  · intro z hz
    simp only [tableOf, List.map_cons, List.map_nil, List.mem_cons, List.not_mem_nil, or_false] at hz
    rcases hz with rfl | rfl
    · exact Or.inr ⟨by decide, "java/lang/IndexOutOfBoundsException", hts (.classLink RL 13 "java/lang/IndexOutOfBoundsException") (by decide +kernel), hN.2.1⟩
    · exact Or.inr ⟨by decide, "java/lang/IllegalArgumentException", hts (.classLink RL 21 "java/lang/IllegalArgumentException") (by decide +kernel), hN.2.2⟩
  refine lv_astore_n (lv' := [(3, .ref q9), (0, .ref vo), (1, .int a0), (2, .int a1)]) hx hb dL_follow_15 rfl hl (by decide) rfl (fun ls hl => ?_)
  refine lv_iconst (v := 3) hx hb dL_follow_16 (by decide) ?_
  subst hA0
  refine W.widen (k := 12) (n := 12351) (by omega) (by omega) ?_
  exact W.iret (v := 3) hx hb hr (fun t ht hW => ⟨⟨3, (), rfl, rfl, (by rw [ht]; exact hP), hD⟩, hS1.F ht⟩) hS1.2.2 dL_follow_17

set_option maxHeartbeats 4000000 in
set_option maxRecDepth 100000 in
theorem kL_answer_ok {S : Type} (l : Launch) (D : va_G) (cy : Nat → ClassId) (sz e0 mi : Nat) (vo : Nat) (a0 : Int32) (a1 : Int32) (a2 : Int32)  (Ww Wc Wr : va_W) (k0 : Nat) (fs : List Value) (hk0 : Ww[k0]? = some (vo, .inr (5, fs))) (hpw : Ww.Perm (wJ Wc Wr)) (W1 : S → va_W) (post : S → Prop) {rm : Room} {mc ms : Nat} (hrm : rm.cells = mc ∧ rm.slots = ms ∧ rm.frames ≤ 12 ∧ rm.locals ≤ 314 ∧ mc ≤ 12 ∧ ms ≤ 12351) (hM : ∀ sz : Nat, Met l yX4_answer wsX4_answer rm (vh_P D cy e0 mi [.ref vo, .int a0, .int a1, .int a2] sz Wc) (vg_Qv (S := S) D sz Wc post W1) mc ms (va_A Wc sz)) : Met l yL_answer wsL_answer ({ frames := 13, cells := 12, slots := 12351, locals := 345 }) (vk_P D cy e0 mi [.ref vo, .int a0, .int a1, .int a2] sz (Ww)) (vg_Qi (S := S) D sz (Ww) (fun r u => r = 0 ∧ post u) (fun u => wJ (W1 u) Wr)) 12 12351 (va_A (Ww) sz) := by
  refine vw_ofWH (cc := cL_answer) (maxL := 5) (ret := some .int) (hh := [(0, 7, 10, 13), (0, 7, 14, 15)]) (by decide) rfl ?_
  intro p e s m args below meth c s₁ BB hml hv
  obtain ⟨⟨rfl, hsz, hP, hE, hD0, hF, hZ⟩, hN⟩ := hv
  have hx := BB.exec
  have hb := BB.bytes
  have hr := BB.returns
  have hts := atoms_spec (ws := wsL_answer) BB.pre
  have hown : s.vm.findClass RL = some m.cls := findClass_of_methodNamed BB.named
  have hlocks := BB.notSynchronized
  subst hsz
  have hD := hD0.self (sz := s.heap.size)
  have hA : ∀ q : Nat, s.heap.size ≤ q → (va_A (Ww) s.heap.size) q := fun q h => Or.inr h
  have hS : va_S (va_A (Ww) s.heap.size) s.heap s.heap [] := va_S.rf
  obtain ⟨A0, hA0⟩ : ∃ A0 : Nat → Prop, A0 = va_A (Ww) s.heap.size := ⟨_, rfl⟩
  rw [← hA0]
  rw [← hA0] at hD hA hS hZ
  have hl := lv_entry ([.ref vo, .int a0, .int a1, .int a2]) (n := 5) (Nat.le_of_ble_eq_true rfl)
  rw [lg_entry_eq]
  generalize (lg_sl ([.ref vo, .int a0, .int a1, .int a2]) ++ List.replicate (5 - (lg_sl ([.ref vo, .int a0, .int a1, .int a2])).length) Slot.unset).toArray = ls at hl ⊢
  have hl : lv_has ls 5 [(0, .ref vo), (1, .int a0), (2, .int a1), (3, .int a2)] := hl
  refine lv_aload_n hx hb dL_answer_0 rfl (lv_at hl 0 rfl) ?_
  refine lv_iload_n hx hb dL_answer_1 rfl (lv_at hl 1 rfl) ?_
  refine lv_iload_n hx hb dL_answer_2 rfl (lv_at hl 2 rfl) ?_
  refine lv_iload_n hx hb dL_answer_3 rfl (lv_at hl 3 rfl) ?_
  refine vj_callv (va_runV (As := [.int a0, .int a1, .int a2]) (rest := []) ⟨hx, hb, hml, hown, hts⟩ (hM s.heap.size) (cwV 3 hts gL_answer_X4_answer rfl hrm.1 hrm.2.1 (by decide +kernel) ⟨by show rm.frames + 1 ≤ 13; omega, by show 8 + (4 + 11) + rm.locals ≤ 345; omega⟩) (vh_P.preV hE hF hZ hS (vj_free (vd_perm hpw hD) hS hA) hP k0 hk0 rfl (vp_app.mp (vp_perm hP hpw)).1 (vd_app.mp (vd_perm hpw hD)).1) rfl rfl hl.1 rfl (lv_room (Nat.le_of_ble_eq_true rfl)) dL_answer_4 ⟨by show 0 + mc ≤ 12; omega, by show 0 + ms ≤ 12351; omega⟩) hP hD hS hA hpw (fun u H locs hu hP hD hS => ?_)
  refine lv_goto (tgt := 18) hx hb dL_answer_7 (by decide) ?_
  refine lv_iconst (v := 0) hx hb dL_answer_18 (by decide) ?_
  subst hA0
  refine W.widen (k := 12) (n := 12351) (by omega) (by omega) ?_
  exact W.iret (v := 0) hx hb hr (fun t ht hW => ⟨⟨0, u, rfl, ⟨rfl, hu⟩, (by rw [ht]; exact hP), hD⟩, hS.F ht⟩) hS.2.2 dL_answer_19

set_option maxHeartbeats 4000000 in
set_option maxRecDepth 100000 in
theorem kL_answer_O (l : Launch) (D : va_G) (cy : Nat → ClassId) (sz e0 mi : Nat) (vo : Nat) (a0 : Int32) (a1 : Int32) (a2 : Int32)  (Ww Wc Wr : va_W) (k0 : Nat) (fs : List Value) (hk0 : Ww[k0]? = some (vo, .inr (5, fs))) (hpw : Ww.Perm (wJ Wc Wr)) {rm : Room} {mc ms : Nat} (hrm : rm.cells = mc ∧ rm.slots = ms ∧ rm.frames ≤ 12 ∧ rm.locals ≤ 314 ∧ mc ≤ 12 ∧ ms ≤ 12351) (hM : ∀ sz : Nat, vx_Met l yX4_answer wsX4_answer rm (vh_P D cy e0 mi [.ref vo, .int a0, .int a1, .int a2] sz Wc) (vh_N Wc sz) (vh_X D "java/lang/IndexOutOfBoundsException" Wc sz) mc ms (va_A Wc sz)) : Met l yL_answer wsL_answer ({ frames := 13, cells := 12, slots := 12351, locals := 345 }) (vk_P D cy e0 mi [.ref vo, .int a0, .int a1, .int a2] sz (Ww)) (vg_Qi (S := Unit) D sz (Ww) (fun r _ => r = 1) (fun _ => Ww)) 12 12351 (va_A (Ww) sz) := by
  refine vw_ofWH (cc := cL_answer) (maxL := 5) (ret := some .int) (hh := [(0, 7, 10, 13), (0, 7, 14, 15)]) (by decide) rfl ?_
  intro p e s m args below meth c s₁ BB hml hv
  obtain ⟨⟨rfl, hsz, hP, hE, hD0, hF, hZ⟩, hN⟩ := hv
  have hx := BB.exec
  have hb := BB.bytes
  have hr := BB.returns
  have hts := atoms_spec (ws := wsL_answer) BB.pre
  have hown : s.vm.findClass RL = some m.cls := findClass_of_methodNamed BB.named
  have hlocks := BB.notSynchronized
  subst hsz
  have hD := hD0.self (sz := s.heap.size)
  have hA : ∀ q : Nat, s.heap.size ≤ q → (va_A (Ww) s.heap.size) q := fun q h => Or.inr h
  have hS : va_S (va_A (Ww) s.heap.size) s.heap s.heap [] := va_S.rf
  obtain ⟨A0, hA0⟩ : ∃ A0 : Nat → Prop, A0 = va_A (Ww) s.heap.size := ⟨_, rfl⟩
  rw [← hA0]
  rw [← hA0] at hD hA hS hZ
  have hl := lv_entry ([.ref vo, .int a0, .int a1, .int a2]) (n := 5) (Nat.le_of_ble_eq_true rfl)
  rw [lg_entry_eq]
  generalize (lg_sl ([.ref vo, .int a0, .int a1, .int a2]) ++ List.replicate (5 - (lg_sl ([.ref vo, .int a0, .int a1, .int a2])).length) Slot.unset).toArray = ls at hl ⊢
  have hl : lv_has ls 5 [(0, .ref vo), (1, .int a0), (2, .int a1), (3, .int a2)] := hl
  refine lv_aload_n hx hb dL_answer_0 rfl (lv_at hl 0 rfl) ?_
  refine lv_iload_n hx hb dL_answer_1 rfl (lv_at hl 1 rfl) ?_
  refine lv_iload_n hx hb dL_answer_2 rfl (lv_at hl 2 rfl) ?_
  refine lv_iload_n hx hb dL_answer_3 rfl (lv_at hl 3 rfl) ?_
  have hP8 := vp_perm hP hpw
  have hD8 := vd_perm hpw hD
  have hF8 := vj_free hD8 hS hA
  have hDc : va_D (va_A Wc s.heap.size) Wc := ((vd_app.mp hD8).1.weaken (fun _ _ _ _ => trivial) : va_D (fun _ => True) Wc).self (sz := s.heap.size)
  refine vx_callv (vx_runV (As := [.int a0, .int a1, .int a2]) (rest := []) ⟨hx, hb, hml, hown, hts⟩ (hM s.heap.size) (cwV 3 hts gL_answer_X4_answer rfl hrm.1 hrm.2.1 (by decide +kernel) ⟨by show rm.frames + 1 ≤ 13; omega, by show 8 + (4 + 11) + rm.locals ≤ 345; omega⟩) (vh_P.preV hE hF hZ hS (vj_free (vd_perm hpw hD) hS hA) hP k0 hk0 rfl (vp_app.mp (vp_perm hP hpw)).1 (vd_app.mp (vd_perm hpw hD)).1) rfl rfl hl.1 rfl (lv_room (Nat.le_of_ble_eq_true rfl)) dL_answer_4 ⟨by show 0 + mc ≤ 12; omega, by show 0 + ms ≤ 12351; omega⟩) hS (fun q _ h => hF8 q h) hF8 (fun q _ h => hF8 q h) (fun E9 ce q9 u t H1 locs1 ht1 hvm _ hB hz hk hS1 hce hcv hcl => ?_) (fun u t H1 locs1 _ _ hpost => hpost.elim)
  obtain ⟨rfl, hP1⟩ := hB
  rw [ht1] at hP1
  obtain ⟨a81, a82⟩ := vj_join hP8 hD8 hk hF8 hP1 hDc
  have hP : va_P D vwCl (Ww) H1 := vp_perm a81 hpw.symm
  have hD : va_D A0 (Ww) := vd_perm hpw.symm a82
  have htab : c.exceptionTable.toList = tableOf [(0, 7, 10, 13), (0, 7, 14, 15)] := vx_table (x := yL_answer) BB (hts _ List.mem_cons_self)
  refine vx_catch (own := RL) (name := "java/lang/IndexOutOfBoundsException") hown (tableOf []) ⟨0, 7, 10, 13⟩ (tableOf [(0, 7, 14, 15)]) (by rw [htab]; rfl) (fun z hz => nomatch hz) (by decide) (by decide) (hts (.classLink RL 13 "java/lang/IndexOutOfBoundsException") (by decide +kernel)) (va_Nw.use rfl (hF.2.2.2.2.2 (.castable "java/lang/IndexOutOfBoundsException" "java/lang/IndexOutOfBoundsException") (by decide +kernel))) hce hcv hcl ?_
  refine lv_astore (lv' := [(4, .ref q9), (0, .ref vo), (1, .int a0), (2, .int a1), (3, .int a2)]) hx hb dL_answer_10 hl (by decide) rfl (fun ls hl => ?_)
  refine lv_iconst (v := 1) hx hb dL_answer_12 (by decide) ?_
  subst hA0
  refine W.widen (k := 12) (n := 12351) (by omega) (by omega) ?_
  exact W.iret (v := 1) hx hb hr (fun t ht hW => ⟨⟨1, (), rfl, rfl, (by rw [ht]; exact hP), hD⟩, hS1.F ht⟩) hS1.2.2 dL_answer_13

set_option maxHeartbeats 4000000 in
set_option maxRecDepth 100000 in
theorem kL_answer_S (l : Launch) (D : va_G) (cy : Nat → ClassId) (sz e0 mi : Nat) (vo : Nat) (a0 : Int32) (a1 : Int32) (a2 : Int32)  (Ww Wc Wr : va_W) (k0 : Nat) (fs : List Value) (hk0 : Ww[k0]? = some (vo, .inr (5, fs))) (hpw : Ww.Perm (wJ Wc Wr)) {rm : Room} {mc ms : Nat} (hrm : rm.cells = mc ∧ rm.slots = ms ∧ rm.frames ≤ 12 ∧ rm.locals ≤ 314 ∧ mc ≤ 12 ∧ ms ≤ 12351) (hM : ∀ sz : Nat, vx_Met l yX4_answer wsX4_answer rm (vh_P D cy e0 mi [.ref vo, .int a0, .int a1, .int a2] sz Wc) (vh_N Wc sz) (vh_X D "java/lang/IllegalStateException" Wc sz) mc ms (va_A Wc sz)) : Met l yL_answer wsL_answer ({ frames := 13, cells := 12, slots := 12351, locals := 345 }) (vk_P D cy e0 mi [.ref vo, .int a0, .int a1, .int a2] sz (Ww)) (vg_Qi (S := Unit) D sz (Ww) (fun r _ => r = 2) (fun _ => Ww)) 12 12351 (va_A (Ww) sz) := by
  refine vw_ofWH (cc := cL_answer) (maxL := 5) (ret := some .int) (hh := [(0, 7, 10, 13), (0, 7, 14, 15)]) (by decide) rfl ?_
  intro p e s m args below meth c s₁ BB hml hv
  obtain ⟨⟨rfl, hsz, hP, hE, hD0, hF, hZ⟩, hN⟩ := hv
  have hx := BB.exec
  have hb := BB.bytes
  have hr := BB.returns
  have hts := atoms_spec (ws := wsL_answer) BB.pre
  have hown : s.vm.findClass RL = some m.cls := findClass_of_methodNamed BB.named
  have hlocks := BB.notSynchronized
  subst hsz
  have hD := hD0.self (sz := s.heap.size)
  have hA : ∀ q : Nat, s.heap.size ≤ q → (va_A (Ww) s.heap.size) q := fun q h => Or.inr h
  have hS : va_S (va_A (Ww) s.heap.size) s.heap s.heap [] := va_S.rf
  obtain ⟨A0, hA0⟩ : ∃ A0 : Nat → Prop, A0 = va_A (Ww) s.heap.size := ⟨_, rfl⟩
  rw [← hA0]
  rw [← hA0] at hD hA hS hZ
  have hl := lv_entry ([.ref vo, .int a0, .int a1, .int a2]) (n := 5) (Nat.le_of_ble_eq_true rfl)
  rw [lg_entry_eq]
  generalize (lg_sl ([.ref vo, .int a0, .int a1, .int a2]) ++ List.replicate (5 - (lg_sl ([.ref vo, .int a0, .int a1, .int a2])).length) Slot.unset).toArray = ls at hl ⊢
  have hl : lv_has ls 5 [(0, .ref vo), (1, .int a0), (2, .int a1), (3, .int a2)] := hl
  refine lv_aload_n hx hb dL_answer_0 rfl (lv_at hl 0 rfl) ?_
  refine lv_iload_n hx hb dL_answer_1 rfl (lv_at hl 1 rfl) ?_
  refine lv_iload_n hx hb dL_answer_2 rfl (lv_at hl 2 rfl) ?_
  refine lv_iload_n hx hb dL_answer_3 rfl (lv_at hl 3 rfl) ?_
  have hP8 := vp_perm hP hpw
  have hD8 := vd_perm hpw hD
  have hF8 := vj_free hD8 hS hA
  have hDc : va_D (va_A Wc s.heap.size) Wc := ((vd_app.mp hD8).1.weaken (fun _ _ _ _ => trivial) : va_D (fun _ => True) Wc).self (sz := s.heap.size)
  refine vx_callv (vx_runV (As := [.int a0, .int a1, .int a2]) (rest := []) ⟨hx, hb, hml, hown, hts⟩ (hM s.heap.size) (cwV 3 hts gL_answer_X4_answer rfl hrm.1 hrm.2.1 (by decide +kernel) ⟨by show rm.frames + 1 ≤ 13; omega, by show 8 + (4 + 11) + rm.locals ≤ 345; omega⟩) (vh_P.preV hE hF hZ hS (vj_free (vd_perm hpw hD) hS hA) hP k0 hk0 rfl (vp_app.mp (vp_perm hP hpw)).1 (vd_app.mp (vd_perm hpw hD)).1) rfl rfl hl.1 rfl (lv_room (Nat.le_of_ble_eq_true rfl)) dL_answer_4 ⟨by show 0 + mc ≤ 12; omega, by show 0 + ms ≤ 12351; omega⟩) hS (fun q _ h => hF8 q h) hF8 (fun q _ h => hF8 q h) (fun E9 ce q9 u t H1 locs1 ht1 hvm _ hB hz hk hS1 hce hcv hcl => ?_) (fun u t H1 locs1 _ _ hpost => hpost.elim)
  obtain ⟨rfl, hP1⟩ := hB
  rw [ht1] at hP1
  obtain ⟨a81, a82⟩ := vj_join hP8 hD8 hk hF8 hP1 hDc
  have hP : va_P D vwCl (Ww) H1 := vp_perm a81 hpw.symm
  have hD : va_D A0 (Ww) := vd_perm hpw.symm a82
  have htab : c.exceptionTable.toList = tableOf [(0, 7, 10, 13), (0, 7, 14, 15)] := vx_table (x := yL_answer) BB (hts _ List.mem_cons_self)
  refine vx_catch (own := RL) (name := "java/lang/IllegalStateException") hown (tableOf [(0, 7, 10, 13)]) ⟨0, 7, 14, 15⟩ (tableOf []) (by rw [htab]; rfl) ?_ (by decide) (by decide) (hts (.classLink RL 15 "java/lang/IllegalStateException") (by decide +kernel)) (va_Nw.use rfl (hF.2.2.2.2.2 (.castable "java/lang/IllegalStateException" "java/lang/IllegalStateException") (by decide +kernel))) hce hcv hcl ?_
  · intro z hz
    simp only [tableOf, List.map_cons, List.map_nil, List.mem_cons, List.not_mem_nil, or_false] at hz
    rcases hz with rfl
    · exact Or.inr ⟨by decide, "java/lang/IndexOutOfBoundsException", hts (.classLink RL 13 "java/lang/IndexOutOfBoundsException") (by decide +kernel), hN.2.1⟩
  refine lv_astore (lv' := [(4, .ref q9), (0, .ref vo), (1, .int a0), (2, .int a1), (3, .int a2)]) hx hb dL_answer_14 hl (by decide) rfl (fun ls hl => ?_)
  refine lv_iconst (v := 2) hx hb dL_answer_16 (by decide) ?_
  subst hA0
  refine W.widen (k := 12) (n := 12351) (by omega) (by omega) ?_
  exact W.iret (v := 2) hx hb hr (fun t ht hW => ⟨⟨2, (), rfl, rfl, (by rw [ht]; exact hP), hD⟩, hS1.F ht⟩) hS1.2.2 dL_answer_17

set_option maxHeartbeats 4000000 in
set_option maxRecDepth 100000 in
theorem kL_leave_ok {S : Type} (l : Launch) (D : va_G) (cy : Nat → ClassId) (sz e0 mi : Nat) (vo : Nat) (a0 : Int32) (a1 : Int32)  (Ww Wc Wr : va_W) (k0 : Nat) (fs : List Value) (hk0 : Ww[k0]? = some (vo, .inr (5, fs))) (hpw : Ww.Perm (wJ Wc Wr)) (W1 : S → va_W) (post : S → Prop) {rm : Room} {mc ms : Nat} (hrm : rm.cells = mc ∧ rm.slots = ms ∧ rm.frames ≤ 12 ∧ rm.locals ≤ 314 ∧ mc ≤ 12 ∧ ms ≤ 12351) (hM : ∀ sz : Nat, Met l yX4_leave wsX4_leave rm (vh_P D cy e0 mi [.ref vo, .int a0, .int a1] sz Wc) (vg_Qv (S := S) D sz Wc post W1) mc ms (va_A Wc sz)) : Met l yL_leave wsL_leave ({ frames := 13, cells := 12, slots := 12351, locals := 345 }) (vk_P D cy e0 mi [.ref vo, .int a0, .int a1] sz (Ww)) (vg_Qi (S := S) D sz (Ww) (fun r u => r = 0 ∧ post u) (fun u => wJ (W1 u) Wr)) 12 12351 (va_A (Ww) sz) := by
  refine vw_ofWH (cc := cL_leave) (maxL := 4) (ret := some .int) (hh := [(0, 6, 9, 13), (0, 6, 12, 15)]) (by decide) rfl ?_
  intro p e s m args below meth c s₁ BB hml hv
  obtain ⟨⟨rfl, hsz, hP, hE, hD0, hF, hZ⟩, hN⟩ := hv
  have hx := BB.exec
  have hb := BB.bytes
  have hr := BB.returns
  have hts := atoms_spec (ws := wsL_leave) BB.pre
  have hown : s.vm.findClass RL = some m.cls := findClass_of_methodNamed BB.named
  have hlocks := BB.notSynchronized
  subst hsz
  have hD := hD0.self (sz := s.heap.size)
  have hA : ∀ q : Nat, s.heap.size ≤ q → (va_A (Ww) s.heap.size) q := fun q h => Or.inr h
  have hS : va_S (va_A (Ww) s.heap.size) s.heap s.heap [] := va_S.rf
  obtain ⟨A0, hA0⟩ : ∃ A0 : Nat → Prop, A0 = va_A (Ww) s.heap.size := ⟨_, rfl⟩
  rw [← hA0]
  rw [← hA0] at hD hA hS hZ
  have hl := lv_entry ([.ref vo, .int a0, .int a1]) (n := 4) (Nat.le_of_ble_eq_true rfl)
  rw [lg_entry_eq]
  generalize (lg_sl ([.ref vo, .int a0, .int a1]) ++ List.replicate (4 - (lg_sl ([.ref vo, .int a0, .int a1])).length) Slot.unset).toArray = ls at hl ⊢
  have hl : lv_has ls 4 [(0, .ref vo), (1, .int a0), (2, .int a1)] := hl
  refine lv_aload_n hx hb dL_leave_0 rfl (lv_at hl 0 rfl) ?_
  refine lv_iload_n hx hb dL_leave_1 rfl (lv_at hl 1 rfl) ?_
  refine lv_iload_n hx hb dL_leave_2 rfl (lv_at hl 2 rfl) ?_
  refine vj_callv (va_runV (As := [.int a0, .int a1]) (rest := []) ⟨hx, hb, hml, hown, hts⟩ (hM s.heap.size) (cwV 2 hts gL_leave_X4_leave rfl hrm.1 hrm.2.1 (by decide +kernel) ⟨by show rm.frames + 1 ≤ 13; omega, by show 8 + (4 + 11) + rm.locals ≤ 345; omega⟩) (vh_P.preV hE hF hZ hS (vj_free (vd_perm hpw hD) hS hA) hP k0 hk0 rfl (vp_app.mp (vp_perm hP hpw)).1 (vd_app.mp (vd_perm hpw hD)).1) rfl rfl hl.1 rfl (lv_room (Nat.le_of_ble_eq_true rfl)) dL_leave_3 ⟨by show 0 + mc ≤ 12; omega, by show 0 + ms ≤ 12351; omega⟩) hP hD hS hA hpw (fun u H locs hu hP hD hS => ?_)
  refine lv_goto (tgt := 15) hx hb dL_leave_6 (by decide) ?_
  refine lv_iconst (v := 0) hx hb dL_leave_15 (by decide) ?_
  subst hA0
  refine W.widen (k := 12) (n := 12351) (by omega) (by omega) ?_
  exact W.iret (v := 0) hx hb hr (fun t ht hW => ⟨⟨0, u, rfl, ⟨rfl, hu⟩, (by rw [ht]; exact hP), hD⟩, hS.F ht⟩) hS.2.2 dL_leave_16

set_option maxHeartbeats 4000000 in
set_option maxRecDepth 100000 in
theorem kL_leave_O (l : Launch) (D : va_G) (cy : Nat → ClassId) (sz e0 mi : Nat) (vo : Nat) (a0 : Int32) (a1 : Int32)  (Ww Wc Wr : va_W) (k0 : Nat) (fs : List Value) (hk0 : Ww[k0]? = some (vo, .inr (5, fs))) (hpw : Ww.Perm (wJ Wc Wr)) {rm : Room} {mc ms : Nat} (hrm : rm.cells = mc ∧ rm.slots = ms ∧ rm.frames ≤ 12 ∧ rm.locals ≤ 314 ∧ mc ≤ 12 ∧ ms ≤ 12351) (hM : ∀ sz : Nat, vx_Met l yX4_leave wsX4_leave rm (vh_P D cy e0 mi [.ref vo, .int a0, .int a1] sz Wc) (vh_N Wc sz) (vh_X D "java/lang/IndexOutOfBoundsException" Wc sz) mc ms (va_A Wc sz)) : Met l yL_leave wsL_leave ({ frames := 13, cells := 12, slots := 12351, locals := 345 }) (vk_P D cy e0 mi [.ref vo, .int a0, .int a1] sz (Ww)) (vg_Qi (S := Unit) D sz (Ww) (fun r _ => r = 1) (fun _ => Ww)) 12 12351 (va_A (Ww) sz) := by
  refine vw_ofWH (cc := cL_leave) (maxL := 4) (ret := some .int) (hh := [(0, 6, 9, 13), (0, 6, 12, 15)]) (by decide) rfl ?_
  intro p e s m args below meth c s₁ BB hml hv
  obtain ⟨⟨rfl, hsz, hP, hE, hD0, hF, hZ⟩, hN⟩ := hv
  have hx := BB.exec
  have hb := BB.bytes
  have hr := BB.returns
  have hts := atoms_spec (ws := wsL_leave) BB.pre
  have hown : s.vm.findClass RL = some m.cls := findClass_of_methodNamed BB.named
  have hlocks := BB.notSynchronized
  subst hsz
  have hD := hD0.self (sz := s.heap.size)
  have hA : ∀ q : Nat, s.heap.size ≤ q → (va_A (Ww) s.heap.size) q := fun q h => Or.inr h
  have hS : va_S (va_A (Ww) s.heap.size) s.heap s.heap [] := va_S.rf
  obtain ⟨A0, hA0⟩ : ∃ A0 : Nat → Prop, A0 = va_A (Ww) s.heap.size := ⟨_, rfl⟩
  rw [← hA0]
  rw [← hA0] at hD hA hS hZ
  have hl := lv_entry ([.ref vo, .int a0, .int a1]) (n := 4) (Nat.le_of_ble_eq_true rfl)
  rw [lg_entry_eq]
  generalize (lg_sl ([.ref vo, .int a0, .int a1]) ++ List.replicate (4 - (lg_sl ([.ref vo, .int a0, .int a1])).length) Slot.unset).toArray = ls at hl ⊢
  have hl : lv_has ls 4 [(0, .ref vo), (1, .int a0), (2, .int a1)] := hl
  refine lv_aload_n hx hb dL_leave_0 rfl (lv_at hl 0 rfl) ?_
  refine lv_iload_n hx hb dL_leave_1 rfl (lv_at hl 1 rfl) ?_
  refine lv_iload_n hx hb dL_leave_2 rfl (lv_at hl 2 rfl) ?_
  have hP8 := vp_perm hP hpw
  have hD8 := vd_perm hpw hD
  have hF8 := vj_free hD8 hS hA
  have hDc : va_D (va_A Wc s.heap.size) Wc := ((vd_app.mp hD8).1.weaken (fun _ _ _ _ => trivial) : va_D (fun _ => True) Wc).self (sz := s.heap.size)
  refine vx_callv (vx_runV (As := [.int a0, .int a1]) (rest := []) ⟨hx, hb, hml, hown, hts⟩ (hM s.heap.size) (cwV 2 hts gL_leave_X4_leave rfl hrm.1 hrm.2.1 (by decide +kernel) ⟨by show rm.frames + 1 ≤ 13; omega, by show 8 + (4 + 11) + rm.locals ≤ 345; omega⟩) (vh_P.preV hE hF hZ hS (vj_free (vd_perm hpw hD) hS hA) hP k0 hk0 rfl (vp_app.mp (vp_perm hP hpw)).1 (vd_app.mp (vd_perm hpw hD)).1) rfl rfl hl.1 rfl (lv_room (Nat.le_of_ble_eq_true rfl)) dL_leave_3 ⟨by show 0 + mc ≤ 12; omega, by show 0 + ms ≤ 12351; omega⟩) hS (fun q _ h => hF8 q h) hF8 (fun q _ h => hF8 q h) (fun E9 ce q9 u t H1 locs1 ht1 hvm _ hB hz hk hS1 hce hcv hcl => ?_) (fun u t H1 locs1 _ _ hpost => hpost.elim)
  obtain ⟨rfl, hP1⟩ := hB
  rw [ht1] at hP1
  obtain ⟨a81, a82⟩ := vj_join hP8 hD8 hk hF8 hP1 hDc
  have hP : va_P D vwCl (Ww) H1 := vp_perm a81 hpw.symm
  have hD : va_D A0 (Ww) := vd_perm hpw.symm a82
  have htab : c.exceptionTable.toList = tableOf [(0, 6, 9, 13), (0, 6, 12, 15)] := vx_table (x := yL_leave) BB (hts _ List.mem_cons_self)
  refine vx_catch (own := RL) (name := "java/lang/IndexOutOfBoundsException") hown (tableOf []) ⟨0, 6, 9, 13⟩ (tableOf [(0, 6, 12, 15)]) (by rw [htab]; rfl) (fun z hz => nomatch hz) (by decide) (by decide) (hts (.classLink RL 13 "java/lang/IndexOutOfBoundsException") (by decide +kernel)) (va_Nw.use rfl (hF.2.2.2.2.2 (.castable "java/lang/IndexOutOfBoundsException" "java/lang/IndexOutOfBoundsException") (by decide +kernel))) hce hcv hcl ?_
  refine lv_astore_n (lv' := [(3, .ref q9), (0, .ref vo), (1, .int a0), (2, .int a1)]) hx hb dL_leave_9 rfl hl (by decide) rfl (fun ls hl => ?_)
  refine lv_iconst (v := 1) hx hb dL_leave_10 (by decide) ?_
  subst hA0
  refine W.widen (k := 12) (n := 12351) (by omega) (by omega) ?_
  exact W.iret (v := 1) hx hb hr (fun t ht hW => ⟨⟨1, (), rfl, rfl, (by rw [ht]; exact hP), hD⟩, hS1.F ht⟩) hS1.2.2 dL_leave_11

set_option maxHeartbeats 4000000 in
set_option maxRecDepth 100000 in
theorem kL_leave_S (l : Launch) (D : va_G) (cy : Nat → ClassId) (sz e0 mi : Nat) (vo : Nat) (a0 : Int32) (a1 : Int32)  (Ww Wc Wr : va_W) (k0 : Nat) (fs : List Value) (hk0 : Ww[k0]? = some (vo, .inr (5, fs))) (hpw : Ww.Perm (wJ Wc Wr)) {rm : Room} {mc ms : Nat} (hrm : rm.cells = mc ∧ rm.slots = ms ∧ rm.frames ≤ 12 ∧ rm.locals ≤ 314 ∧ mc ≤ 12 ∧ ms ≤ 12351) (hM : ∀ sz : Nat, vx_Met l yX4_leave wsX4_leave rm (vh_P D cy e0 mi [.ref vo, .int a0, .int a1] sz Wc) (vh_N Wc sz) (vh_X D "java/lang/IllegalStateException" Wc sz) mc ms (va_A Wc sz)) : Met l yL_leave wsL_leave ({ frames := 13, cells := 12, slots := 12351, locals := 345 }) (vk_P D cy e0 mi [.ref vo, .int a0, .int a1] sz (Ww)) (vg_Qi (S := Unit) D sz (Ww) (fun r _ => r = 2) (fun _ => Ww)) 12 12351 (va_A (Ww) sz) := by
  refine vw_ofWH (cc := cL_leave) (maxL := 4) (ret := some .int) (hh := [(0, 6, 9, 13), (0, 6, 12, 15)]) (by decide) rfl ?_
  intro p e s m args below meth c s₁ BB hml hv
  obtain ⟨⟨rfl, hsz, hP, hE, hD0, hF, hZ⟩, hN⟩ := hv
  have hx := BB.exec
  have hb := BB.bytes
  have hr := BB.returns
  have hts := atoms_spec (ws := wsL_leave) BB.pre
  have hown : s.vm.findClass RL = some m.cls := findClass_of_methodNamed BB.named
  have hlocks := BB.notSynchronized
  subst hsz
  have hD := hD0.self (sz := s.heap.size)
  have hA : ∀ q : Nat, s.heap.size ≤ q → (va_A (Ww) s.heap.size) q := fun q h => Or.inr h
  have hS : va_S (va_A (Ww) s.heap.size) s.heap s.heap [] := va_S.rf
  obtain ⟨A0, hA0⟩ : ∃ A0 : Nat → Prop, A0 = va_A (Ww) s.heap.size := ⟨_, rfl⟩
  rw [← hA0]
  rw [← hA0] at hD hA hS hZ
  have hl := lv_entry ([.ref vo, .int a0, .int a1]) (n := 4) (Nat.le_of_ble_eq_true rfl)
  rw [lg_entry_eq]
  generalize (lg_sl ([.ref vo, .int a0, .int a1]) ++ List.replicate (4 - (lg_sl ([.ref vo, .int a0, .int a1])).length) Slot.unset).toArray = ls at hl ⊢
  have hl : lv_has ls 4 [(0, .ref vo), (1, .int a0), (2, .int a1)] := hl
  refine lv_aload_n hx hb dL_leave_0 rfl (lv_at hl 0 rfl) ?_
  refine lv_iload_n hx hb dL_leave_1 rfl (lv_at hl 1 rfl) ?_
  refine lv_iload_n hx hb dL_leave_2 rfl (lv_at hl 2 rfl) ?_
  have hP8 := vp_perm hP hpw
  have hD8 := vd_perm hpw hD
  have hF8 := vj_free hD8 hS hA
  have hDc : va_D (va_A Wc s.heap.size) Wc := ((vd_app.mp hD8).1.weaken (fun _ _ _ _ => trivial) : va_D (fun _ => True) Wc).self (sz := s.heap.size)
  refine vx_callv (vx_runV (As := [.int a0, .int a1]) (rest := []) ⟨hx, hb, hml, hown, hts⟩ (hM s.heap.size) (cwV 2 hts gL_leave_X4_leave rfl hrm.1 hrm.2.1 (by decide +kernel) ⟨by show rm.frames + 1 ≤ 13; omega, by show 8 + (4 + 11) + rm.locals ≤ 345; omega⟩) (vh_P.preV hE hF hZ hS (vj_free (vd_perm hpw hD) hS hA) hP k0 hk0 rfl (vp_app.mp (vp_perm hP hpw)).1 (vd_app.mp (vd_perm hpw hD)).1) rfl rfl hl.1 rfl (lv_room (Nat.le_of_ble_eq_true rfl)) dL_leave_3 ⟨by show 0 + mc ≤ 12; omega, by show 0 + ms ≤ 12351; omega⟩) hS (fun q _ h => hF8 q h) hF8 (fun q _ h => hF8 q h) (fun E9 ce q9 u t H1 locs1 ht1 hvm _ hB hz hk hS1 hce hcv hcl => ?_) (fun u t H1 locs1 _ _ hpost => hpost.elim)
  obtain ⟨rfl, hP1⟩ := hB
  rw [ht1] at hP1
  obtain ⟨a81, a82⟩ := vj_join hP8 hD8 hk hF8 hP1 hDc
  have hP : va_P D vwCl (Ww) H1 := vp_perm a81 hpw.symm
  have hD : va_D A0 (Ww) := vd_perm hpw.symm a82
  have htab : c.exceptionTable.toList = tableOf [(0, 6, 9, 13), (0, 6, 12, 15)] := vx_table (x := yL_leave) BB (hts _ List.mem_cons_self)
  refine vx_catch (own := RL) (name := "java/lang/IllegalStateException") hown (tableOf [(0, 6, 9, 13)]) ⟨0, 6, 12, 15⟩ (tableOf []) (by rw [htab]; rfl) ?_ (by decide) (by decide) (hts (.classLink RL 15 "java/lang/IllegalStateException") (by decide +kernel)) (va_Nw.use rfl (hF.2.2.2.2.2 (.castable "java/lang/IllegalStateException" "java/lang/IllegalStateException") (by decide +kernel))) hce hcv hcl ?_
  · intro z hz
    simp only [tableOf, List.map_cons, List.map_nil, List.mem_cons, List.not_mem_nil, or_false] at hz
    rcases hz with rfl
    · exact Or.inr ⟨by decide, "java/lang/IndexOutOfBoundsException", hts (.classLink RL 13 "java/lang/IndexOutOfBoundsException") (by decide +kernel), hN.2.1⟩
  refine lv_astore_n (lv' := [(3, .ref q9), (0, .ref vo), (1, .int a0), (2, .int a1)]) hx hb dL_leave_12 rfl hl (by decide) rfl (fun ls hl => ?_)
  refine lv_iconst (v := 2) hx hb dL_leave_13 (by decide) ?_
  subst hA0
  refine W.widen (k := 12) (n := 12351) (by omega) (by omega) ?_
  exact W.iret (v := 2) hx hb hr (fun t ht hW => ⟨⟨2, (), rfl, rfl, (by rw [ht]; exact hP), hD⟩, hS1.F ht⟩) hS1.2.2 dL_leave_14

set_option maxHeartbeats 4000000 in
set_option maxRecDepth 100000 in
theorem kL_block_ok {S : Type} (l : Launch) (D : va_G) (cy : Nat → ClassId) (sz e0 mi : Nat) (vo : Nat) (a0 : Int32) (a1 : Int32) (a2 : Int32)  (Ww Wc Wr : va_W) (k0 : Nat) (fs : List Value) (hk0 : Ww[k0]? = some (vo, .inr (5, fs))) (hpw : Ww.Perm (wJ Wc Wr)) (W1 : S → va_W) (post : S → Prop) {rm : Room} {mc ms : Nat} (hrm : rm.cells = mc ∧ rm.slots = ms ∧ rm.frames ≤ 12 ∧ rm.locals ≤ 314 ∧ mc ≤ 12 ∧ ms ≤ 12351) (hM : ∀ sz : Nat, Met l yX4_block wsX4_block rm (vh_P D cy e0 mi [.ref vo, .int a0, .int a1, .int a2] sz Wc) (vg_Qv (S := S) D sz Wc post W1) mc ms (va_A Wc sz)) : Met l yL_block wsL_block ({ frames := 13, cells := 12, slots := 12351, locals := 345 }) (vk_P D cy e0 mi [.ref vo, .int a0, .int a1, .int a2] sz (Ww)) (vg_Qi (S := S) D sz (Ww) (fun r u => r = 0 ∧ post u) (fun u => wJ (W1 u) Wr)) 12 12351 (va_A (Ww) sz) := by
  refine vw_ofWH (cc := cL_block) (maxL := 5) (ret := some .int) (hh := [(0, 7, 10, 13), (0, 7, 14, 21), (0, 7, 18, 15)]) (by decide) rfl ?_
  intro p e s m args below meth c s₁ BB hml hv
  obtain ⟨⟨rfl, hsz, hP, hE, hD0, hF, hZ⟩, hN⟩ := hv
  have hx := BB.exec
  have hb := BB.bytes
  have hr := BB.returns
  have hts := atoms_spec (ws := wsL_block) BB.pre
  have hown : s.vm.findClass RL = some m.cls := findClass_of_methodNamed BB.named
  have hlocks := BB.notSynchronized
  subst hsz
  have hD := hD0.self (sz := s.heap.size)
  have hA : ∀ q : Nat, s.heap.size ≤ q → (va_A (Ww) s.heap.size) q := fun q h => Or.inr h
  have hS : va_S (va_A (Ww) s.heap.size) s.heap s.heap [] := va_S.rf
  obtain ⟨A0, hA0⟩ : ∃ A0 : Nat → Prop, A0 = va_A (Ww) s.heap.size := ⟨_, rfl⟩
  rw [← hA0]
  rw [← hA0] at hD hA hS hZ
  have hl := lv_entry ([.ref vo, .int a0, .int a1, .int a2]) (n := 5) (Nat.le_of_ble_eq_true rfl)
  rw [lg_entry_eq]
  generalize (lg_sl ([.ref vo, .int a0, .int a1, .int a2]) ++ List.replicate (5 - (lg_sl ([.ref vo, .int a0, .int a1, .int a2])).length) Slot.unset).toArray = ls at hl ⊢
  have hl : lv_has ls 5 [(0, .ref vo), (1, .int a0), (2, .int a1), (3, .int a2)] := hl
  refine lv_aload_n hx hb dL_block_0 rfl (lv_at hl 0 rfl) ?_
  refine lv_iload_n hx hb dL_block_1 rfl (lv_at hl 1 rfl) ?_
  refine lv_iload_n hx hb dL_block_2 rfl (lv_at hl 2 rfl) ?_
  refine lv_iload_n hx hb dL_block_3 rfl (lv_at hl 3 rfl) ?_
  refine vj_callv (va_runV (As := [.int a0, .int a1, .int a2]) (rest := []) ⟨hx, hb, hml, hown, hts⟩ (hM s.heap.size) (cwV 3 hts gL_block_X4_block rfl hrm.1 hrm.2.1 (by decide +kernel) ⟨by show rm.frames + 1 ≤ 13; omega, by show 8 + (4 + 11) + rm.locals ≤ 345; omega⟩) (vh_P.preV hE hF hZ hS (vj_free (vd_perm hpw hD) hS hA) hP k0 hk0 rfl (vp_app.mp (vp_perm hP hpw)).1 (vd_app.mp (vd_perm hpw hD)).1) rfl rfl hl.1 rfl (lv_room (Nat.le_of_ble_eq_true rfl)) dL_block_4 ⟨by show 0 + mc ≤ 12; omega, by show 0 + ms ≤ 12351; omega⟩) hP hD hS hA hpw (fun u H locs hu hP hD hS => ?_)
  refine lv_goto (tgt := 22) hx hb dL_block_7 (by decide) ?_
  refine lv_iconst (v := 0) hx hb dL_block_22 (by decide) ?_
  subst hA0
  refine W.widen (k := 12) (n := 12351) (by omega) (by omega) ?_
  exact W.iret (v := 0) hx hb hr (fun t ht hW => ⟨⟨0, u, rfl, ⟨rfl, hu⟩, (by rw [ht]; exact hP), hD⟩, hS.F ht⟩) hS.2.2 dL_block_23

set_option maxHeartbeats 4000000 in
set_option maxRecDepth 100000 in
theorem kL_block_O (l : Launch) (D : va_G) (cy : Nat → ClassId) (sz e0 mi : Nat) (vo : Nat) (a0 : Int32) (a1 : Int32) (a2 : Int32)  (Ww Wc Wr : va_W) (k0 : Nat) (fs : List Value) (hk0 : Ww[k0]? = some (vo, .inr (5, fs))) (hpw : Ww.Perm (wJ Wc Wr)) {rm : Room} {mc ms : Nat} (hrm : rm.cells = mc ∧ rm.slots = ms ∧ rm.frames ≤ 12 ∧ rm.locals ≤ 314 ∧ mc ≤ 12 ∧ ms ≤ 12351) (hM : ∀ sz : Nat, vx_Met l yX4_block wsX4_block rm (vh_P D cy e0 mi [.ref vo, .int a0, .int a1, .int a2] sz Wc) (vh_N Wc sz) (vh_X D "java/lang/IndexOutOfBoundsException" Wc sz) mc ms (va_A Wc sz)) : Met l yL_block wsL_block ({ frames := 13, cells := 12, slots := 12351, locals := 345 }) (vk_P D cy e0 mi [.ref vo, .int a0, .int a1, .int a2] sz (Ww)) (vg_Qi (S := Unit) D sz (Ww) (fun r _ => r = 1) (fun _ => Ww)) 12 12351 (va_A (Ww) sz) := by
  refine vw_ofWH (cc := cL_block) (maxL := 5) (ret := some .int) (hh := [(0, 7, 10, 13), (0, 7, 14, 21), (0, 7, 18, 15)]) (by decide) rfl ?_
  intro p e s m args below meth c s₁ BB hml hv
  obtain ⟨⟨rfl, hsz, hP, hE, hD0, hF, hZ⟩, hN⟩ := hv
  have hx := BB.exec
  have hb := BB.bytes
  have hr := BB.returns
  have hts := atoms_spec (ws := wsL_block) BB.pre
  have hown : s.vm.findClass RL = some m.cls := findClass_of_methodNamed BB.named
  have hlocks := BB.notSynchronized
  subst hsz
  have hD := hD0.self (sz := s.heap.size)
  have hA : ∀ q : Nat, s.heap.size ≤ q → (va_A (Ww) s.heap.size) q := fun q h => Or.inr h
  have hS : va_S (va_A (Ww) s.heap.size) s.heap s.heap [] := va_S.rf
  obtain ⟨A0, hA0⟩ : ∃ A0 : Nat → Prop, A0 = va_A (Ww) s.heap.size := ⟨_, rfl⟩
  rw [← hA0]
  rw [← hA0] at hD hA hS hZ
  have hl := lv_entry ([.ref vo, .int a0, .int a1, .int a2]) (n := 5) (Nat.le_of_ble_eq_true rfl)
  rw [lg_entry_eq]
  generalize (lg_sl ([.ref vo, .int a0, .int a1, .int a2]) ++ List.replicate (5 - (lg_sl ([.ref vo, .int a0, .int a1, .int a2])).length) Slot.unset).toArray = ls at hl ⊢
  have hl : lv_has ls 5 [(0, .ref vo), (1, .int a0), (2, .int a1), (3, .int a2)] := hl
  refine lv_aload_n hx hb dL_block_0 rfl (lv_at hl 0 rfl) ?_
  refine lv_iload_n hx hb dL_block_1 rfl (lv_at hl 1 rfl) ?_
  refine lv_iload_n hx hb dL_block_2 rfl (lv_at hl 2 rfl) ?_
  refine lv_iload_n hx hb dL_block_3 rfl (lv_at hl 3 rfl) ?_
  have hP8 := vp_perm hP hpw
  have hD8 := vd_perm hpw hD
  have hF8 := vj_free hD8 hS hA
  have hDc : va_D (va_A Wc s.heap.size) Wc := ((vd_app.mp hD8).1.weaken (fun _ _ _ _ => trivial) : va_D (fun _ => True) Wc).self (sz := s.heap.size)
  refine vx_callv (vx_runV (As := [.int a0, .int a1, .int a2]) (rest := []) ⟨hx, hb, hml, hown, hts⟩ (hM s.heap.size) (cwV 3 hts gL_block_X4_block rfl hrm.1 hrm.2.1 (by decide +kernel) ⟨by show rm.frames + 1 ≤ 13; omega, by show 8 + (4 + 11) + rm.locals ≤ 345; omega⟩) (vh_P.preV hE hF hZ hS (vj_free (vd_perm hpw hD) hS hA) hP k0 hk0 rfl (vp_app.mp (vp_perm hP hpw)).1 (vd_app.mp (vd_perm hpw hD)).1) rfl rfl hl.1 rfl (lv_room (Nat.le_of_ble_eq_true rfl)) dL_block_4 ⟨by show 0 + mc ≤ 12; omega, by show 0 + ms ≤ 12351; omega⟩) hS (fun q _ h => hF8 q h) hF8 (fun q _ h => hF8 q h) (fun E9 ce q9 u t H1 locs1 ht1 hvm _ hB hz hk hS1 hce hcv hcl => ?_) (fun u t H1 locs1 _ _ hpost => hpost.elim)
  obtain ⟨rfl, hP1⟩ := hB
  rw [ht1] at hP1
  obtain ⟨a81, a82⟩ := vj_join hP8 hD8 hk hF8 hP1 hDc
  have hP : va_P D vwCl (Ww) H1 := vp_perm a81 hpw.symm
  have hD : va_D A0 (Ww) := vd_perm hpw.symm a82
  have htab : c.exceptionTable.toList = tableOf [(0, 7, 10, 13), (0, 7, 14, 21), (0, 7, 18, 15)] := vx_table (x := yL_block) BB (hts _ List.mem_cons_self)
  refine vx_catch (own := RL) (name := "java/lang/IndexOutOfBoundsException") hown (tableOf []) ⟨0, 7, 10, 13⟩ (tableOf [(0, 7, 14, 21), (0, 7, 18, 15)]) (by rw [htab]; rfl) (fun z hz => nomatch hz) (by decide) (by decide) (hts (.classLink RL 13 "java/lang/IndexOutOfBoundsException") (by decide +kernel)) (va_Nw.use rfl (hF.2.2.2.2.2 (.castable "java/lang/IndexOutOfBoundsException" "java/lang/IndexOutOfBoundsException") (by decide +kernel))) hce hcv hcl ?_
  refine lv_astore (lv' := [(4, .ref q9), (0, .ref vo), (1, .int a0), (2, .int a1), (3, .int a2)]) hx hb dL_block_10 hl (by decide) rfl (fun ls hl => ?_)
  refine lv_iconst (v := 1) hx hb dL_block_12 (by decide) ?_
  subst hA0
  refine W.widen (k := 12) (n := 12351) (by omega) (by omega) ?_
  exact W.iret (v := 1) hx hb hr (fun t ht hW => ⟨⟨1, (), rfl, rfl, (by rw [ht]; exact hP), hD⟩, hS1.F ht⟩) hS1.2.2 dL_block_13

set_option maxHeartbeats 4000000 in
set_option maxRecDepth 100000 in
theorem kL_block_A (l : Launch) (D : va_G) (cy : Nat → ClassId) (sz e0 mi : Nat) (vo : Nat) (a0 : Int32) (a1 : Int32) (a2 : Int32)  (Ww Wc Wr : va_W) (k0 : Nat) (fs : List Value) (hk0 : Ww[k0]? = some (vo, .inr (5, fs))) (hpw : Ww.Perm (wJ Wc Wr)) {rm : Room} {mc ms : Nat} (hrm : rm.cells = mc ∧ rm.slots = ms ∧ rm.frames ≤ 12 ∧ rm.locals ≤ 314 ∧ mc ≤ 12 ∧ ms ≤ 12351) (hM : ∀ sz : Nat, vx_Met l yX4_block wsX4_block rm (vh_P D cy e0 mi [.ref vo, .int a0, .int a1, .int a2] sz Wc) (vh_N Wc sz) (vh_X D "java/lang/IllegalArgumentException" Wc sz) mc ms (va_A Wc sz)) : Met l yL_block wsL_block ({ frames := 13, cells := 12, slots := 12351, locals := 345 }) (vk_P D cy e0 mi [.ref vo, .int a0, .int a1, .int a2] sz (Ww)) (vg_Qi (S := Unit) D sz (Ww) (fun r _ => r = 2) (fun _ => Ww)) 12 12351 (va_A (Ww) sz) := by
  refine vw_ofWH (cc := cL_block) (maxL := 5) (ret := some .int) (hh := [(0, 7, 10, 13), (0, 7, 14, 21), (0, 7, 18, 15)]) (by decide) rfl ?_
  intro p e s m args below meth c s₁ BB hml hv
  obtain ⟨⟨rfl, hsz, hP, hE, hD0, hF, hZ⟩, hN⟩ := hv
  have hx := BB.exec
  have hb := BB.bytes
  have hr := BB.returns
  have hts := atoms_spec (ws := wsL_block) BB.pre
  have hown : s.vm.findClass RL = some m.cls := findClass_of_methodNamed BB.named
  have hlocks := BB.notSynchronized
  subst hsz
  have hD := hD0.self (sz := s.heap.size)
  have hA : ∀ q : Nat, s.heap.size ≤ q → (va_A (Ww) s.heap.size) q := fun q h => Or.inr h
  have hS : va_S (va_A (Ww) s.heap.size) s.heap s.heap [] := va_S.rf
  obtain ⟨A0, hA0⟩ : ∃ A0 : Nat → Prop, A0 = va_A (Ww) s.heap.size := ⟨_, rfl⟩
  rw [← hA0]
  rw [← hA0] at hD hA hS hZ
  have hl := lv_entry ([.ref vo, .int a0, .int a1, .int a2]) (n := 5) (Nat.le_of_ble_eq_true rfl)
  rw [lg_entry_eq]
  generalize (lg_sl ([.ref vo, .int a0, .int a1, .int a2]) ++ List.replicate (5 - (lg_sl ([.ref vo, .int a0, .int a1, .int a2])).length) Slot.unset).toArray = ls at hl ⊢
  have hl : lv_has ls 5 [(0, .ref vo), (1, .int a0), (2, .int a1), (3, .int a2)] := hl
  refine lv_aload_n hx hb dL_block_0 rfl (lv_at hl 0 rfl) ?_
  refine lv_iload_n hx hb dL_block_1 rfl (lv_at hl 1 rfl) ?_
  refine lv_iload_n hx hb dL_block_2 rfl (lv_at hl 2 rfl) ?_
  refine lv_iload_n hx hb dL_block_3 rfl (lv_at hl 3 rfl) ?_
  have hP8 := vp_perm hP hpw
  have hD8 := vd_perm hpw hD
  have hF8 := vj_free hD8 hS hA
  have hDc : va_D (va_A Wc s.heap.size) Wc := ((vd_app.mp hD8).1.weaken (fun _ _ _ _ => trivial) : va_D (fun _ => True) Wc).self (sz := s.heap.size)
  refine vx_callv (vx_runV (As := [.int a0, .int a1, .int a2]) (rest := []) ⟨hx, hb, hml, hown, hts⟩ (hM s.heap.size) (cwV 3 hts gL_block_X4_block rfl hrm.1 hrm.2.1 (by decide +kernel) ⟨by show rm.frames + 1 ≤ 13; omega, by show 8 + (4 + 11) + rm.locals ≤ 345; omega⟩) (vh_P.preV hE hF hZ hS (vj_free (vd_perm hpw hD) hS hA) hP k0 hk0 rfl (vp_app.mp (vp_perm hP hpw)).1 (vd_app.mp (vd_perm hpw hD)).1) rfl rfl hl.1 rfl (lv_room (Nat.le_of_ble_eq_true rfl)) dL_block_4 ⟨by show 0 + mc ≤ 12; omega, by show 0 + ms ≤ 12351; omega⟩) hS (fun q _ h => hF8 q h) hF8 (fun q _ h => hF8 q h) (fun E9 ce q9 u t H1 locs1 ht1 hvm _ hB hz hk hS1 hce hcv hcl => ?_) (fun u t H1 locs1 _ _ hpost => hpost.elim)
  obtain ⟨rfl, hP1⟩ := hB
  rw [ht1] at hP1
  obtain ⟨a81, a82⟩ := vj_join hP8 hD8 hk hF8 hP1 hDc
  have hP : va_P D vwCl (Ww) H1 := vp_perm a81 hpw.symm
  have hD : va_D A0 (Ww) := vd_perm hpw.symm a82
  have htab : c.exceptionTable.toList = tableOf [(0, 7, 10, 13), (0, 7, 14, 21), (0, 7, 18, 15)] := vx_table (x := yL_block) BB (hts _ List.mem_cons_self)
  refine vx_catch (own := RL) (name := "java/lang/IllegalArgumentException") hown (tableOf [(0, 7, 10, 13)]) ⟨0, 7, 14, 21⟩ (tableOf [(0, 7, 18, 15)]) (by rw [htab]; rfl) ?_ (by decide) (by decide) (hts (.classLink RL 21 "java/lang/IllegalArgumentException") (by decide +kernel)) (va_Nw.use rfl (hF.2.2.2.2.2 (.castable "java/lang/IllegalArgumentException" "java/lang/IllegalArgumentException") (by decide +kernel))) hce hcv hcl ?_
  · intro z hz
    simp only [tableOf, List.map_cons, List.map_nil, List.mem_cons, List.not_mem_nil, or_false] at hz
    rcases hz with rfl
    · exact Or.inr ⟨by decide, "java/lang/IndexOutOfBoundsException", hts (.classLink RL 13 "java/lang/IndexOutOfBoundsException") (by decide +kernel), hN.1⟩
  refine lv_astore (lv' := [(4, .ref q9), (0, .ref vo), (1, .int a0), (2, .int a1), (3, .int a2)]) hx hb dL_block_14 hl (by decide) rfl (fun ls hl => ?_)
  refine lv_iconst (v := 2) hx hb dL_block_16 (by decide) ?_
  subst hA0
  refine W.widen (k := 12) (n := 12351) (by omega) (by omega) ?_
  exact W.iret (v := 2) hx hb hr (fun t ht hW => ⟨⟨2, (), rfl, rfl, (by rw [ht]; exact hP), hD⟩, hS1.F ht⟩) hS1.2.2 dL_block_17

set_option maxHeartbeats 4000000 in
set_option maxRecDepth 100000 in
theorem kL_block_S (l : Launch) (D : va_G) (cy : Nat → ClassId) (sz e0 mi : Nat) (vo : Nat) (a0 : Int32) (a1 : Int32) (a2 : Int32)  (Ww Wc Wr : va_W) (k0 : Nat) (fs : List Value) (hk0 : Ww[k0]? = some (vo, .inr (5, fs))) (hpw : Ww.Perm (wJ Wc Wr)) {rm : Room} {mc ms : Nat} (hrm : rm.cells = mc ∧ rm.slots = ms ∧ rm.frames ≤ 12 ∧ rm.locals ≤ 314 ∧ mc ≤ 12 ∧ ms ≤ 12351) (hM : ∀ sz : Nat, vx_Met l yX4_block wsX4_block rm (vh_P D cy e0 mi [.ref vo, .int a0, .int a1, .int a2] sz Wc) (vh_N Wc sz) (vh_X D "java/lang/IllegalStateException" Wc sz) mc ms (va_A Wc sz)) : Met l yL_block wsL_block ({ frames := 13, cells := 12, slots := 12351, locals := 345 }) (vk_P D cy e0 mi [.ref vo, .int a0, .int a1, .int a2] sz (Ww)) (vg_Qi (S := Unit) D sz (Ww) (fun r _ => r = 3) (fun _ => Ww)) 12 12351 (va_A (Ww) sz) := by
  refine vw_ofWH (cc := cL_block) (maxL := 5) (ret := some .int) (hh := [(0, 7, 10, 13), (0, 7, 14, 21), (0, 7, 18, 15)]) (by decide) rfl ?_
  intro p e s m args below meth c s₁ BB hml hv
  obtain ⟨⟨rfl, hsz, hP, hE, hD0, hF, hZ⟩, hN⟩ := hv
  have hx := BB.exec
  have hb := BB.bytes
  have hr := BB.returns
  have hts := atoms_spec (ws := wsL_block) BB.pre
  have hown : s.vm.findClass RL = some m.cls := findClass_of_methodNamed BB.named
  have hlocks := BB.notSynchronized
  subst hsz
  have hD := hD0.self (sz := s.heap.size)
  have hA : ∀ q : Nat, s.heap.size ≤ q → (va_A (Ww) s.heap.size) q := fun q h => Or.inr h
  have hS : va_S (va_A (Ww) s.heap.size) s.heap s.heap [] := va_S.rf
  obtain ⟨A0, hA0⟩ : ∃ A0 : Nat → Prop, A0 = va_A (Ww) s.heap.size := ⟨_, rfl⟩
  rw [← hA0]
  rw [← hA0] at hD hA hS hZ
  have hl := lv_entry ([.ref vo, .int a0, .int a1, .int a2]) (n := 5) (Nat.le_of_ble_eq_true rfl)
  rw [lg_entry_eq]
  generalize (lg_sl ([.ref vo, .int a0, .int a1, .int a2]) ++ List.replicate (5 - (lg_sl ([.ref vo, .int a0, .int a1, .int a2])).length) Slot.unset).toArray = ls at hl ⊢
  have hl : lv_has ls 5 [(0, .ref vo), (1, .int a0), (2, .int a1), (3, .int a2)] := hl
  refine lv_aload_n hx hb dL_block_0 rfl (lv_at hl 0 rfl) ?_
  refine lv_iload_n hx hb dL_block_1 rfl (lv_at hl 1 rfl) ?_
  refine lv_iload_n hx hb dL_block_2 rfl (lv_at hl 2 rfl) ?_
  refine lv_iload_n hx hb dL_block_3 rfl (lv_at hl 3 rfl) ?_
  have hP8 := vp_perm hP hpw
  have hD8 := vd_perm hpw hD
  have hF8 := vj_free hD8 hS hA
  have hDc : va_D (va_A Wc s.heap.size) Wc := ((vd_app.mp hD8).1.weaken (fun _ _ _ _ => trivial) : va_D (fun _ => True) Wc).self (sz := s.heap.size)
  refine vx_callv (vx_runV (As := [.int a0, .int a1, .int a2]) (rest := []) ⟨hx, hb, hml, hown, hts⟩ (hM s.heap.size) (cwV 3 hts gL_block_X4_block rfl hrm.1 hrm.2.1 (by decide +kernel) ⟨by show rm.frames + 1 ≤ 13; omega, by show 8 + (4 + 11) + rm.locals ≤ 345; omega⟩) (vh_P.preV hE hF hZ hS (vj_free (vd_perm hpw hD) hS hA) hP k0 hk0 rfl (vp_app.mp (vp_perm hP hpw)).1 (vd_app.mp (vd_perm hpw hD)).1) rfl rfl hl.1 rfl (lv_room (Nat.le_of_ble_eq_true rfl)) dL_block_4 ⟨by show 0 + mc ≤ 12; omega, by show 0 + ms ≤ 12351; omega⟩) hS (fun q _ h => hF8 q h) hF8 (fun q _ h => hF8 q h) (fun E9 ce q9 u t H1 locs1 ht1 hvm _ hB hz hk hS1 hce hcv hcl => ?_) (fun u t H1 locs1 _ _ hpost => hpost.elim)
  obtain ⟨rfl, hP1⟩ := hB
  rw [ht1] at hP1
  obtain ⟨a81, a82⟩ := vj_join hP8 hD8 hk hF8 hP1 hDc
  have hP : va_P D vwCl (Ww) H1 := vp_perm a81 hpw.symm
  have hD : va_D A0 (Ww) := vd_perm hpw.symm a82
  have htab : c.exceptionTable.toList = tableOf [(0, 7, 10, 13), (0, 7, 14, 21), (0, 7, 18, 15)] := vx_table (x := yL_block) BB (hts _ List.mem_cons_self)
  refine vx_catch (own := RL) (name := "java/lang/IllegalStateException") hown (tableOf [(0, 7, 10, 13), (0, 7, 14, 21)]) ⟨0, 7, 18, 15⟩ (tableOf []) (by rw [htab]; rfl) ?_ (by decide) (by decide) (hts (.classLink RL 15 "java/lang/IllegalStateException") (by decide +kernel)) (va_Nw.use rfl (hF.2.2.2.2.2 (.castable "java/lang/IllegalStateException" "java/lang/IllegalStateException") (by decide +kernel))) hce hcv hcl ?_
  · intro z hz
    simp only [tableOf, List.map_cons, List.map_nil, List.mem_cons, List.not_mem_nil, or_false] at hz
    rcases hz with rfl | rfl
    · exact Or.inr ⟨by decide, "java/lang/IndexOutOfBoundsException", hts (.classLink RL 13 "java/lang/IndexOutOfBoundsException") (by decide +kernel), hN.2.1⟩
    · exact Or.inr ⟨by decide, "java/lang/IllegalArgumentException", hts (.classLink RL 21 "java/lang/IllegalArgumentException") (by decide +kernel), hN.2.2⟩
  refine lv_astore (lv' := [(4, .ref q9), (0, .ref vo), (1, .int a0), (2, .int a1), (3, .int a2)]) hx hb dL_block_18 hl (by decide) rfl (fun ls hl => ?_)
  refine lv_iconst (v := 3) hx hb dL_block_20 (by decide) ?_
  subst hA0
  refine W.widen (k := 12) (n := 12351) (by omega) (by omega) ?_
  exact W.iret (v := 3) hx hb hr (fun t ht hW => ⟨⟨3, (), rfl, rfl, (by rw [ht]; exact hP), hD⟩, hS1.F ht⟩) hS1.2.2 dL_block_21

set_option maxHeartbeats 4000000 in
set_option maxRecDepth 100000 in
theorem kL_alias_ok {S : Type} (l : Launch) (D : va_G) (cy : Nat → ClassId) (sz e0 mi : Nat) (vo : Nat) (a0 : Int32) (a1 : Int32)  (Ww Wc Wr : va_W) (k0 : Nat) (fs : List Value) (hk0 : Ww[k0]? = some (vo, .inr (5, fs))) (hpw : Ww.Perm (wJ Wc Wr)) (W1 : S → va_W) (post : S → Prop) {rm : Room} {mc ms : Nat} (hrm : rm.cells = mc ∧ rm.slots = ms ∧ rm.frames ≤ 12 ∧ rm.locals ≤ 314 ∧ mc ≤ 12 ∧ ms ≤ 12351) (hM : ∀ sz : Nat, Met l yX4_alias wsX4_alias rm (vh_P D cy e0 mi [.ref vo, .int a0, .int a1] sz Wc) (vg_Qv (S := S) D sz Wc post W1) mc ms (va_A Wc sz)) : Met l yL_alias wsL_alias ({ frames := 13, cells := 12, slots := 12351, locals := 345 }) (vk_P D cy e0 mi [.ref vo, .int a0, .int a1] sz (Ww)) (vg_Qi (S := S) D sz (Ww) (fun r u => r = 0 ∧ post u) (fun u => wJ (W1 u) Wr)) 12 12351 (va_A (Ww) sz) := by
  refine vw_ofWH (cc := cL_alias) (maxL := 4) (ret := some .int) (hh := [(0, 6, 9, 13), (0, 6, 12, 21)]) (by decide) rfl ?_
  intro p e s m args below meth c s₁ BB hml hv
  obtain ⟨⟨rfl, hsz, hP, hE, hD0, hF, hZ⟩, hN⟩ := hv
  have hx := BB.exec
  have hb := BB.bytes
  have hr := BB.returns
  have hts := atoms_spec (ws := wsL_alias) BB.pre
  have hown : s.vm.findClass RL = some m.cls := findClass_of_methodNamed BB.named
  have hlocks := BB.notSynchronized
  subst hsz
  have hD := hD0.self (sz := s.heap.size)
  have hA : ∀ q : Nat, s.heap.size ≤ q → (va_A (Ww) s.heap.size) q := fun q h => Or.inr h
  have hS : va_S (va_A (Ww) s.heap.size) s.heap s.heap [] := va_S.rf
  obtain ⟨A0, hA0⟩ : ∃ A0 : Nat → Prop, A0 = va_A (Ww) s.heap.size := ⟨_, rfl⟩
  rw [← hA0]
  rw [← hA0] at hD hA hS hZ
  have hl := lv_entry ([.ref vo, .int a0, .int a1]) (n := 4) (Nat.le_of_ble_eq_true rfl)
  rw [lg_entry_eq]
  generalize (lg_sl ([.ref vo, .int a0, .int a1]) ++ List.replicate (4 - (lg_sl ([.ref vo, .int a0, .int a1])).length) Slot.unset).toArray = ls at hl ⊢
  have hl : lv_has ls 4 [(0, .ref vo), (1, .int a0), (2, .int a1)] := hl
  refine lv_aload_n hx hb dL_alias_0 rfl (lv_at hl 0 rfl) ?_
  refine lv_iload_n hx hb dL_alias_1 rfl (lv_at hl 1 rfl) ?_
  refine lv_iload_n hx hb dL_alias_2 rfl (lv_at hl 2 rfl) ?_
  refine vj_callv (va_runV (As := [.int a0, .int a1]) (rest := []) ⟨hx, hb, hml, hown, hts⟩ (hM s.heap.size) (cwV 2 hts gL_alias_X4_alias rfl hrm.1 hrm.2.1 (by decide +kernel) ⟨by show rm.frames + 1 ≤ 13; omega, by show 8 + (3 + 11) + rm.locals ≤ 345; omega⟩) (vh_P.preV hE hF hZ hS (vj_free (vd_perm hpw hD) hS hA) hP k0 hk0 rfl (vp_app.mp (vp_perm hP hpw)).1 (vd_app.mp (vd_perm hpw hD)).1) rfl rfl hl.1 rfl (lv_room (Nat.le_of_ble_eq_true rfl)) dL_alias_3 ⟨by show 0 + mc ≤ 12; omega, by show 0 + ms ≤ 12351; omega⟩) hP hD hS hA hpw (fun u H locs hu hP hD hS => ?_)
  refine lv_goto (tgt := 15) hx hb dL_alias_6 (by decide) ?_
  refine lv_iconst (v := 0) hx hb dL_alias_15 (by decide) ?_
  subst hA0
  refine W.widen (k := 12) (n := 12351) (by omega) (by omega) ?_
  exact W.iret (v := 0) hx hb hr (fun t ht hW => ⟨⟨0, u, rfl, ⟨rfl, hu⟩, (by rw [ht]; exact hP), hD⟩, hS.F ht⟩) hS.2.2 dL_alias_16

set_option maxHeartbeats 4000000 in
set_option maxRecDepth 100000 in
theorem kL_alias_O (l : Launch) (D : va_G) (cy : Nat → ClassId) (sz e0 mi : Nat) (vo : Nat) (a0 : Int32) (a1 : Int32)  (Ww Wc Wr : va_W) (k0 : Nat) (fs : List Value) (hk0 : Ww[k0]? = some (vo, .inr (5, fs))) (hpw : Ww.Perm (wJ Wc Wr)) {rm : Room} {mc ms : Nat} (hrm : rm.cells = mc ∧ rm.slots = ms ∧ rm.frames ≤ 12 ∧ rm.locals ≤ 314 ∧ mc ≤ 12 ∧ ms ≤ 12351) (hM : ∀ sz : Nat, vx_Met l yX4_alias wsX4_alias rm (vh_P D cy e0 mi [.ref vo, .int a0, .int a1] sz Wc) (vh_N Wc sz) (vh_X D "java/lang/IndexOutOfBoundsException" Wc sz) mc ms (va_A Wc sz)) : Met l yL_alias wsL_alias ({ frames := 13, cells := 12, slots := 12351, locals := 345 }) (vk_P D cy e0 mi [.ref vo, .int a0, .int a1] sz (Ww)) (vg_Qi (S := Unit) D sz (Ww) (fun r _ => r = 1) (fun _ => Ww)) 12 12351 (va_A (Ww) sz) := by
  refine vw_ofWH (cc := cL_alias) (maxL := 4) (ret := some .int) (hh := [(0, 6, 9, 13), (0, 6, 12, 21)]) (by decide) rfl ?_
  intro p e s m args below meth c s₁ BB hml hv
  obtain ⟨⟨rfl, hsz, hP, hE, hD0, hF, hZ⟩, hN⟩ := hv
  have hx := BB.exec
  have hb := BB.bytes
  have hr := BB.returns
  have hts := atoms_spec (ws := wsL_alias) BB.pre
  have hown : s.vm.findClass RL = some m.cls := findClass_of_methodNamed BB.named
  have hlocks := BB.notSynchronized
  subst hsz
  have hD := hD0.self (sz := s.heap.size)
  have hA : ∀ q : Nat, s.heap.size ≤ q → (va_A (Ww) s.heap.size) q := fun q h => Or.inr h
  have hS : va_S (va_A (Ww) s.heap.size) s.heap s.heap [] := va_S.rf
  obtain ⟨A0, hA0⟩ : ∃ A0 : Nat → Prop, A0 = va_A (Ww) s.heap.size := ⟨_, rfl⟩
  rw [← hA0]
  rw [← hA0] at hD hA hS hZ
  have hl := lv_entry ([.ref vo, .int a0, .int a1]) (n := 4) (Nat.le_of_ble_eq_true rfl)
  rw [lg_entry_eq]
  generalize (lg_sl ([.ref vo, .int a0, .int a1]) ++ List.replicate (4 - (lg_sl ([.ref vo, .int a0, .int a1])).length) Slot.unset).toArray = ls at hl ⊢
  have hl : lv_has ls 4 [(0, .ref vo), (1, .int a0), (2, .int a1)] := hl
  refine lv_aload_n hx hb dL_alias_0 rfl (lv_at hl 0 rfl) ?_
  refine lv_iload_n hx hb dL_alias_1 rfl (lv_at hl 1 rfl) ?_
  refine lv_iload_n hx hb dL_alias_2 rfl (lv_at hl 2 rfl) ?_
  have hP8 := vp_perm hP hpw
  have hD8 := vd_perm hpw hD
  have hF8 := vj_free hD8 hS hA
  have hDc : va_D (va_A Wc s.heap.size) Wc := ((vd_app.mp hD8).1.weaken (fun _ _ _ _ => trivial) : va_D (fun _ => True) Wc).self (sz := s.heap.size)
  refine vx_callv (vx_runV (As := [.int a0, .int a1]) (rest := []) ⟨hx, hb, hml, hown, hts⟩ (hM s.heap.size) (cwV 2 hts gL_alias_X4_alias rfl hrm.1 hrm.2.1 (by decide +kernel) ⟨by show rm.frames + 1 ≤ 13; omega, by show 8 + (3 + 11) + rm.locals ≤ 345; omega⟩) (vh_P.preV hE hF hZ hS (vj_free (vd_perm hpw hD) hS hA) hP k0 hk0 rfl (vp_app.mp (vp_perm hP hpw)).1 (vd_app.mp (vd_perm hpw hD)).1) rfl rfl hl.1 rfl (lv_room (Nat.le_of_ble_eq_true rfl)) dL_alias_3 ⟨by show 0 + mc ≤ 12; omega, by show 0 + ms ≤ 12351; omega⟩) hS (fun q _ h => hF8 q h) hF8 (fun q _ h => hF8 q h) (fun E9 ce q9 u t H1 locs1 ht1 hvm _ hB hz hk hS1 hce hcv hcl => ?_) (fun u t H1 locs1 _ _ hpost => hpost.elim)
  obtain ⟨rfl, hP1⟩ := hB
  rw [ht1] at hP1
  obtain ⟨a81, a82⟩ := vj_join hP8 hD8 hk hF8 hP1 hDc
  have hP : va_P D vwCl (Ww) H1 := vp_perm a81 hpw.symm
  have hD : va_D A0 (Ww) := vd_perm hpw.symm a82
  have htab : c.exceptionTable.toList = tableOf [(0, 6, 9, 13), (0, 6, 12, 21)] := vx_table (x := yL_alias) BB (hts _ List.mem_cons_self)
  refine vx_catch (own := RL) (name := "java/lang/IndexOutOfBoundsException") hown (tableOf []) ⟨0, 6, 9, 13⟩ (tableOf [(0, 6, 12, 21)]) (by rw [htab]; rfl) (fun z hz => nomatch hz) (by decide) (by decide) (hts (.classLink RL 13 "java/lang/IndexOutOfBoundsException") (by decide +kernel)) (va_Nw.use rfl (hF.2.2.2.2.2 (.castable "java/lang/IndexOutOfBoundsException" "java/lang/IndexOutOfBoundsException") (by decide +kernel))) hce hcv hcl ?_
  refine lv_astore_n (lv' := [(3, .ref q9), (0, .ref vo), (1, .int a0), (2, .int a1)]) hx hb dL_alias_9 rfl hl (by decide) rfl (fun ls hl => ?_)
  refine lv_iconst (v := 1) hx hb dL_alias_10 (by decide) ?_
  subst hA0
  refine W.widen (k := 12) (n := 12351) (by omega) (by omega) ?_
  exact W.iret (v := 1) hx hb hr (fun t ht hW => ⟨⟨1, (), rfl, rfl, (by rw [ht]; exact hP), hD⟩, hS1.F ht⟩) hS1.2.2 dL_alias_11

set_option maxHeartbeats 4000000 in
set_option maxRecDepth 100000 in
theorem kL_alias_A (l : Launch) (D : va_G) (cy : Nat → ClassId) (sz e0 mi : Nat) (vo : Nat) (a0 : Int32) (a1 : Int32)  (Ww Wc Wr : va_W) (k0 : Nat) (fs : List Value) (hk0 : Ww[k0]? = some (vo, .inr (5, fs))) (hpw : Ww.Perm (wJ Wc Wr)) {rm : Room} {mc ms : Nat} (hrm : rm.cells = mc ∧ rm.slots = ms ∧ rm.frames ≤ 12 ∧ rm.locals ≤ 314 ∧ mc ≤ 12 ∧ ms ≤ 12351) (hM : ∀ sz : Nat, vx_Met l yX4_alias wsX4_alias rm (vh_P D cy e0 mi [.ref vo, .int a0, .int a1] sz Wc) (vh_N Wc sz) (vh_X D "java/lang/IllegalArgumentException" Wc sz) mc ms (va_A Wc sz)) : Met l yL_alias wsL_alias ({ frames := 13, cells := 12, slots := 12351, locals := 345 }) (vk_P D cy e0 mi [.ref vo, .int a0, .int a1] sz (Ww)) (vg_Qi (S := Unit) D sz (Ww) (fun r _ => r = 2) (fun _ => Ww)) 12 12351 (va_A (Ww) sz) := by
  refine vw_ofWH (cc := cL_alias) (maxL := 4) (ret := some .int) (hh := [(0, 6, 9, 13), (0, 6, 12, 21)]) (by decide) rfl ?_
  intro p e s m args below meth c s₁ BB hml hv
  obtain ⟨⟨rfl, hsz, hP, hE, hD0, hF, hZ⟩, hN⟩ := hv
  have hx := BB.exec
  have hb := BB.bytes
  have hr := BB.returns
  have hts := atoms_spec (ws := wsL_alias) BB.pre
  have hown : s.vm.findClass RL = some m.cls := findClass_of_methodNamed BB.named
  have hlocks := BB.notSynchronized
  subst hsz
  have hD := hD0.self (sz := s.heap.size)
  have hA : ∀ q : Nat, s.heap.size ≤ q → (va_A (Ww) s.heap.size) q := fun q h => Or.inr h
  have hS : va_S (va_A (Ww) s.heap.size) s.heap s.heap [] := va_S.rf
  obtain ⟨A0, hA0⟩ : ∃ A0 : Nat → Prop, A0 = va_A (Ww) s.heap.size := ⟨_, rfl⟩
  rw [← hA0]
  rw [← hA0] at hD hA hS hZ
  have hl := lv_entry ([.ref vo, .int a0, .int a1]) (n := 4) (Nat.le_of_ble_eq_true rfl)
  rw [lg_entry_eq]
  generalize (lg_sl ([.ref vo, .int a0, .int a1]) ++ List.replicate (4 - (lg_sl ([.ref vo, .int a0, .int a1])).length) Slot.unset).toArray = ls at hl ⊢
  have hl : lv_has ls 4 [(0, .ref vo), (1, .int a0), (2, .int a1)] := hl
  refine lv_aload_n hx hb dL_alias_0 rfl (lv_at hl 0 rfl) ?_
  refine lv_iload_n hx hb dL_alias_1 rfl (lv_at hl 1 rfl) ?_
  refine lv_iload_n hx hb dL_alias_2 rfl (lv_at hl 2 rfl) ?_
  have hP8 := vp_perm hP hpw
  have hD8 := vd_perm hpw hD
  have hF8 := vj_free hD8 hS hA
  have hDc : va_D (va_A Wc s.heap.size) Wc := ((vd_app.mp hD8).1.weaken (fun _ _ _ _ => trivial) : va_D (fun _ => True) Wc).self (sz := s.heap.size)
  refine vx_callv (vx_runV (As := [.int a0, .int a1]) (rest := []) ⟨hx, hb, hml, hown, hts⟩ (hM s.heap.size) (cwV 2 hts gL_alias_X4_alias rfl hrm.1 hrm.2.1 (by decide +kernel) ⟨by show rm.frames + 1 ≤ 13; omega, by show 8 + (3 + 11) + rm.locals ≤ 345; omega⟩) (vh_P.preV hE hF hZ hS (vj_free (vd_perm hpw hD) hS hA) hP k0 hk0 rfl (vp_app.mp (vp_perm hP hpw)).1 (vd_app.mp (vd_perm hpw hD)).1) rfl rfl hl.1 rfl (lv_room (Nat.le_of_ble_eq_true rfl)) dL_alias_3 ⟨by show 0 + mc ≤ 12; omega, by show 0 + ms ≤ 12351; omega⟩) hS (fun q _ h => hF8 q h) hF8 (fun q _ h => hF8 q h) (fun E9 ce q9 u t H1 locs1 ht1 hvm _ hB hz hk hS1 hce hcv hcl => ?_) (fun u t H1 locs1 _ _ hpost => hpost.elim)
  obtain ⟨rfl, hP1⟩ := hB
  rw [ht1] at hP1
  obtain ⟨a81, a82⟩ := vj_join hP8 hD8 hk hF8 hP1 hDc
  have hP : va_P D vwCl (Ww) H1 := vp_perm a81 hpw.symm
  have hD : va_D A0 (Ww) := vd_perm hpw.symm a82
  have htab : c.exceptionTable.toList = tableOf [(0, 6, 9, 13), (0, 6, 12, 21)] := vx_table (x := yL_alias) BB (hts _ List.mem_cons_self)
  refine vx_catch (own := RL) (name := "java/lang/IllegalArgumentException") hown (tableOf [(0, 6, 9, 13)]) ⟨0, 6, 12, 21⟩ (tableOf []) (by rw [htab]; rfl) ?_ (by decide) (by decide) (hts (.classLink RL 21 "java/lang/IllegalArgumentException") (by decide +kernel)) (va_Nw.use rfl (hF.2.2.2.2.2 (.castable "java/lang/IllegalArgumentException" "java/lang/IllegalArgumentException") (by decide +kernel))) hce hcv hcl ?_
  · intro z hz
    simp only [tableOf, List.map_cons, List.map_nil, List.mem_cons, List.not_mem_nil, or_false] at hz
    rcases hz with rfl
    · exact Or.inr ⟨by decide, "java/lang/IndexOutOfBoundsException", hts (.classLink RL 13 "java/lang/IndexOutOfBoundsException") (by decide +kernel), hN.1⟩
  refine lv_astore_n (lv' := [(3, .ref q9), (0, .ref vo), (1, .int a0), (2, .int a1)]) hx hb dL_alias_12 rfl hl (by decide) rfl (fun ls hl => ?_)
  refine lv_iconst (v := 2) hx hb dL_alias_13 (by decide) ?_
  subst hA0
  refine W.widen (k := 12) (n := 12351) (by omega) (by omega) ?_
  exact W.iret (v := 2) hx hb hr (fun t ht hW => ⟨⟨2, (), rfl, rfl, (by rw [ht]; exact hP), hD⟩, hS1.F ht⟩) hS1.2.2 dL_alias_14

set_option maxHeartbeats 4000000 in
set_option maxRecDepth 100000 in
theorem kL_move_ok {S : Type} (l : Launch) (D : va_G) (cy : Nat → ClassId) (sz e0 mi : Nat) (vo : Nat) (a0 : Int32) (a1 : Int32) (oa : Nat) (f : Nat → Int64) (Ww Wc Wr : va_W) (k0 : Nat) (fs : List Value) (hk0 : Ww[k0]? = some (vo, .inr (5, fs))) (hpw : Ww.Perm (wJ Wc Wr)) (W1 : S → va_W) (post : Int32 → S → Prop) {rm : Room} {mc ms : Nat} (hrm : rm.cells = mc ∧ rm.slots = ms ∧ rm.frames ≤ 12 ∧ rm.locals ≤ 314 ∧ mc ≤ 12 ∧ ms ≤ 12351) (hM : ∀ sz : Nat, Met l yX4_move wsX4_move rm (vh_P D cy e0 mi [.ref vo, .int a0, .int a1] sz Wc) (vg_Qi (S := S) D sz Wc post W1) mc ms (va_A Wc sz)) : Met l yL_move wsL_move ({ frames := 13, cells := 12, slots := 12351, locals := 345 }) (vk_P D cy e0 mi [.ref vo, .int a0, .int a1, .ref oa] sz (wJ (uOut cy oa f) Ww)) (vg_Qi (S := Int32 × S) D sz (wJ (uOut cy oa f) Ww) (fun r u => r = 0 ∧ post u.1 u.2) (fun u => wJ (uOut cy oa (vp_updL f 0 u.1.toInt64)) (wJ (W1 u.2) Wr))) 12 12351 (va_A (wJ (uOut cy oa f) Ww) sz) := by
  refine vw_ofWH (cc := cL_move) (maxL := 5) (ret := some .int) (hh := [(0, 10, 13, 13), (0, 10, 17, 15)]) (by decide) rfl ?_
  intro p e s m args below meth c s₁ BB hml hv
  obtain ⟨⟨rfl, hsz, hP, hE, hD0, hF, hZ⟩, hN⟩ := hv
  have hx := BB.exec
  have hb := BB.bytes
  have hr := BB.returns
  have hts := atoms_spec (ws := wsL_move) BB.pre
  have hown : s.vm.findClass RL = some m.cls := findClass_of_methodNamed BB.named
  have hlocks := BB.notSynchronized
  subst hsz
  have hD := hD0.self (sz := s.heap.size)
  have hA : ∀ q : Nat, s.heap.size ≤ q → (va_A (wJ (uOut cy oa f) Ww) s.heap.size) q := fun q h => Or.inr h
  have hS : va_S (va_A (wJ (uOut cy oa f) Ww) s.heap.size) s.heap s.heap [] := va_S.rf
  obtain ⟨A0, hA0⟩ : ∃ A0 : Nat → Prop, A0 = va_A (wJ (uOut cy oa f) Ww) s.heap.size := ⟨_, rfl⟩
  rw [← hA0]
  rw [← hA0] at hD hA hS hZ
  have hl := lv_entry ([.ref vo, .int a0, .int a1, .ref oa]) (n := 5) (Nat.le_of_ble_eq_true rfl)
  rw [lg_entry_eq]
  generalize (lg_sl ([.ref vo, .int a0, .int a1, .ref oa]) ++ List.replicate (5 - (lg_sl ([.ref vo, .int a0, .int a1, .ref oa])).length) Slot.unset).toArray = ls at hl ⊢
  have hl : lv_has ls 5 [(0, .ref vo), (1, .int a0), (2, .int a1), (3, .ref oa)] := hl
  refine lv_aload_n hx hb dL_move_0 rfl (lv_at hl 3 rfl) ?_
  refine lv_iconst (v := 0) hx hb dL_move_1 (by decide) ?_
  refine vg_tp (nI 0) rfl ?_
  refine lv_aload_n hx hb dL_move_2 rfl (lv_at hl 0 rfl) ?_
  refine lv_iload_n hx hb dL_move_3 rfl (lv_at hl 1 rfl) ?_
  refine lv_iload_n hx hb dL_move_4 rfl (lv_at hl 2 rfl) ?_
  have hp9 : (wJ (uOut cy oa f) Ww : va_W).Perm (wJ Wc (wJ (uOut cy oa f) Wr)) := ((List.Perm.append_left (uOut cy oa f) hpw).trans (vp_pc (fun n9 hn9 h90 => by simp only [wJ, hn9, h90, Nat.add_zero, Nat.zero_add] <;> ac_rfl)))
  refine vj_calli (va_runV (As := [.int a0, .int a1]) (rest := [.int (nI 0), .ref oa]) ⟨hx, hb, hml, hown, hts⟩ (hM s.heap.size) (cwV 2 hts gL_move_X4_move rfl hrm.1 hrm.2.1 (by decide +kernel) ⟨by show rm.frames + 1 ≤ 13; omega, by show 8 + (5 + 11) + rm.locals ≤ 345; omega⟩) (vh_P.preV hE hF hZ hS (vj_free (vd_perm hp9 hD) hS hA) hP (k0 + 1) (by rw [wJ, uOut, List.singleton_append, List.getElem?_cons_succ]; exact hk0) rfl (vp_app.mp (vp_perm hP hp9)).1 (vd_app.mp (vd_perm hp9 hD)).1) rfl rfl hl.1 rfl (lv_room (Nat.le_of_ble_eq_true rfl)) dL_move_5 ⟨by show 0 + mc ≤ 12; omega, by show 0 + ms ≤ 12351; omega⟩) hP hD hS hA hp9 (fun r u H locs hu hP hD hS => ?_)
  have hp7 : (wJ (W1 u) (wJ (uOut cy oa f) Wr) : va_W).Perm (wJ (uOut cy oa f) (wJ (W1 u) Wr)) := (vp_pc (fun n9 hn9 h90 => by simp only [wJ, hn9, h90, Nat.add_zero, Nat.zero_add] <;> ac_rfl))
  have hP : va_P D vwCl (wJ (uOut cy oa f) (wJ (W1 u) Wr)) H := vp_perm hP hp7
  have hD : va_D A0 (wJ (uOut cy oa f) (wJ (W1 u) Wr)) := vd_perm hp7 hD
  refine lv_i2l (v := r.toInt64) hx hb dL_move_8 rfl ?_
  refine vg_last hx hb hE.1 hP hD hS 0 1 rfl rfl (f := f) (j := 0) (by decide) (by decide) dL_move_9 (fun H locs hP hD hS => ?_)
  have hP : va_P D vwCl (wJ (uOut cy oa (vp_updL f 0 r.toInt64)) (wJ (W1 u) Wr)) H := hP
  have hD : va_D A0 (wJ (uOut cy oa (vp_updL f 0 r.toInt64)) (wJ (W1 u) Wr)) := hD
  refine lv_goto (tgt := 21) hx hb dL_move_10 (by decide) ?_
  refine lv_iconst (v := 0) hx hb dL_move_21 (by decide) ?_
  subst hA0
  refine W.widen (k := 12) (n := 12351) (by omega) (by omega) ?_
  exact W.iret (v := 0) hx hb hr (fun t ht hW => ⟨⟨0, (r, u), rfl, ⟨rfl, hu⟩, (by rw [ht]; exact hP), hD⟩, hS.F ht⟩) hS.2.2 dL_move_22

set_option maxHeartbeats 4000000 in
set_option maxRecDepth 100000 in
theorem kL_move_O (l : Launch) (D : va_G) (cy : Nat → ClassId) (sz e0 mi : Nat) (vo : Nat) (a0 : Int32) (a1 : Int32) (oa : Nat) (f : Nat → Int64) (Ww Wc Wr : va_W) (k0 : Nat) (fs : List Value) (hk0 : Ww[k0]? = some (vo, .inr (5, fs))) (hpw : Ww.Perm (wJ Wc Wr)) {rm : Room} {mc ms : Nat} (hrm : rm.cells = mc ∧ rm.slots = ms ∧ rm.frames ≤ 12 ∧ rm.locals ≤ 314 ∧ mc ≤ 12 ∧ ms ≤ 12351) (hM : ∀ sz : Nat, vx_Met l yX4_move wsX4_move rm (vh_P D cy e0 mi [.ref vo, .int a0, .int a1] sz Wc) (vh_N Wc sz) (vh_X D "java/lang/IndexOutOfBoundsException" Wc sz) mc ms (va_A Wc sz)) : Met l yL_move wsL_move ({ frames := 13, cells := 12, slots := 12351, locals := 345 }) (vk_P D cy e0 mi [.ref vo, .int a0, .int a1, .ref oa] sz (wJ (uOut cy oa f) Ww)) (vg_Qi (S := Unit) D sz (wJ (uOut cy oa f) Ww) (fun r _ => r = 1) (fun _ => wJ (uOut cy oa f) Ww)) 12 12351 (va_A (wJ (uOut cy oa f) Ww) sz) := by
  refine vw_ofWH (cc := cL_move) (maxL := 5) (ret := some .int) (hh := [(0, 10, 13, 13), (0, 10, 17, 15)]) (by decide) rfl ?_
  intro p e s m args below meth c s₁ BB hml hv
  obtain ⟨⟨rfl, hsz, hP, hE, hD0, hF, hZ⟩, hN⟩ := hv
  have hx := BB.exec
  have hb := BB.bytes
  have hr := BB.returns
  have hts := atoms_spec (ws := wsL_move) BB.pre
  have hown : s.vm.findClass RL = some m.cls := findClass_of_methodNamed BB.named
  have hlocks := BB.notSynchronized
  subst hsz
  have hD := hD0.self (sz := s.heap.size)
  have hA : ∀ q : Nat, s.heap.size ≤ q → (va_A (wJ (uOut cy oa f) Ww) s.heap.size) q := fun q h => Or.inr h
  have hS : va_S (va_A (wJ (uOut cy oa f) Ww) s.heap.size) s.heap s.heap [] := va_S.rf
  obtain ⟨A0, hA0⟩ : ∃ A0 : Nat → Prop, A0 = va_A (wJ (uOut cy oa f) Ww) s.heap.size := ⟨_, rfl⟩
  rw [← hA0]
  rw [← hA0] at hD hA hS hZ
  have hl := lv_entry ([.ref vo, .int a0, .int a1, .ref oa]) (n := 5) (Nat.le_of_ble_eq_true rfl)
  rw [lg_entry_eq]
  generalize (lg_sl ([.ref vo, .int a0, .int a1, .ref oa]) ++ List.replicate (5 - (lg_sl ([.ref vo, .int a0, .int a1, .ref oa])).length) Slot.unset).toArray = ls at hl ⊢
  have hl : lv_has ls 5 [(0, .ref vo), (1, .int a0), (2, .int a1), (3, .ref oa)] := hl
  refine lv_aload_n hx hb dL_move_0 rfl (lv_at hl 3 rfl) ?_
  refine lv_iconst (v := 0) hx hb dL_move_1 (by decide) ?_
  refine vg_tp (nI 0) rfl ?_
  refine lv_aload_n hx hb dL_move_2 rfl (lv_at hl 0 rfl) ?_
  refine lv_iload_n hx hb dL_move_3 rfl (lv_at hl 1 rfl) ?_
  refine lv_iload_n hx hb dL_move_4 rfl (lv_at hl 2 rfl) ?_
  have hp9 : (wJ (uOut cy oa f) Ww : va_W).Perm (wJ Wc (wJ (uOut cy oa f) Wr)) := ((List.Perm.append_left (uOut cy oa f) hpw).trans (vp_pc (fun n9 hn9 h90 => by simp only [wJ, hn9, h90, Nat.add_zero, Nat.zero_add] <;> ac_rfl)))
  have hP8 := vp_perm hP hp9
  have hD8 := vd_perm hp9 hD
  have hF8 := vj_free hD8 hS hA
  have hDc : va_D (va_A Wc s.heap.size) Wc := ((vd_app.mp hD8).1.weaken (fun _ _ _ _ => trivial) : va_D (fun _ => True) Wc).self (sz := s.heap.size)
  refine vx_callv (vx_runV (As := [.int a0, .int a1]) (rest := [.int (nI 0), .ref oa]) ⟨hx, hb, hml, hown, hts⟩ (hM s.heap.size) (cwV 2 hts gL_move_X4_move rfl hrm.1 hrm.2.1 (by decide +kernel) ⟨by show rm.frames + 1 ≤ 13; omega, by show 8 + (5 + 11) + rm.locals ≤ 345; omega⟩) (vh_P.preV hE hF hZ hS (vj_free (vd_perm hp9 hD) hS hA) hP (k0 + 1) (by rw [wJ, uOut, List.singleton_append, List.getElem?_cons_succ]; exact hk0) rfl (vp_app.mp (vp_perm hP hp9)).1 (vd_app.mp (vd_perm hp9 hD)).1) rfl rfl hl.1 rfl (lv_room (Nat.le_of_ble_eq_true rfl)) dL_move_5 ⟨by show 0 + mc ≤ 12; omega, by show 0 + ms ≤ 12351; omega⟩) hS (fun q _ h => hF8 q h) hF8 (fun q _ h => hF8 q h) (fun E9 ce q9 u t H1 locs1 ht1 hvm _ hB hz hk hS1 hce hcv hcl => ?_) (fun u t H1 locs1 _ _ hpost => hpost.elim)
  obtain ⟨rfl, hP1⟩ := hB
  rw [ht1] at hP1
  obtain ⟨a81, a82⟩ := vj_join hP8 hD8 hk hF8 hP1 hDc
  have hP : va_P D vwCl (wJ (uOut cy oa f) Ww) H1 := vp_perm a81 hp9.symm
  have hD : va_D A0 (wJ (uOut cy oa f) Ww) := vd_perm hp9.symm a82
  have htab : c.exceptionTable.toList = tableOf [(0, 10, 13, 13), (0, 10, 17, 15)] := vx_table (x := yL_move) BB (hts _ List.mem_cons_self)
  refine vx_catch (own := RL) (name := "java/lang/IndexOutOfBoundsException") hown (tableOf []) ⟨0, 10, 13, 13⟩ (tableOf [(0, 10, 17, 15)]) (by rw [htab]; rfl) (fun z hz => nomatch hz) (by decide) (by decide) (hts (.classLink RL 13 "java/lang/IndexOutOfBoundsException") (by decide +kernel)) (va_Nw.use rfl (hF.2.2.2.2.2 (.castable "java/lang/IndexOutOfBoundsException" "java/lang/IndexOutOfBoundsException") (by decide +kernel))) hce hcv hcl ?_
  refine lv_astore (lv' := [(4, .ref q9), (0, .ref vo), (1, .int a0), (2, .int a1), (3, .ref oa)]) hx hb dL_move_13 hl (by decide) rfl (fun ls hl => ?_)
  refine lv_iconst (v := 1) hx hb dL_move_15 (by decide) ?_
  subst hA0
  refine W.widen (k := 12) (n := 12351) (by omega) (by omega) ?_
  exact W.iret (v := 1) hx hb hr (fun t ht hW => ⟨⟨1, (), rfl, rfl, (by rw [ht]; exact hP), hD⟩, hS1.F ht⟩) hS1.2.2 dL_move_16

set_option maxHeartbeats 4000000 in
set_option maxRecDepth 100000 in
theorem kL_move_S (l : Launch) (D : va_G) (cy : Nat → ClassId) (sz e0 mi : Nat) (vo : Nat) (a0 : Int32) (a1 : Int32) (oa : Nat) (f : Nat → Int64) (Ww Wc Wr : va_W) (k0 : Nat) (fs : List Value) (hk0 : Ww[k0]? = some (vo, .inr (5, fs))) (hpw : Ww.Perm (wJ Wc Wr)) {rm : Room} {mc ms : Nat} (hrm : rm.cells = mc ∧ rm.slots = ms ∧ rm.frames ≤ 12 ∧ rm.locals ≤ 314 ∧ mc ≤ 12 ∧ ms ≤ 12351) (hM : ∀ sz : Nat, vx_Met l yX4_move wsX4_move rm (vh_P D cy e0 mi [.ref vo, .int a0, .int a1] sz Wc) (vh_N Wc sz) (vh_X D "java/lang/IllegalStateException" Wc sz) mc ms (va_A Wc sz)) : Met l yL_move wsL_move ({ frames := 13, cells := 12, slots := 12351, locals := 345 }) (vk_P D cy e0 mi [.ref vo, .int a0, .int a1, .ref oa] sz (wJ (uOut cy oa f) Ww)) (vg_Qi (S := Unit) D sz (wJ (uOut cy oa f) Ww) (fun r _ => r = 2) (fun _ => wJ (uOut cy oa f) Ww)) 12 12351 (va_A (wJ (uOut cy oa f) Ww) sz) := by
  refine vw_ofWH (cc := cL_move) (maxL := 5) (ret := some .int) (hh := [(0, 10, 13, 13), (0, 10, 17, 15)]) (by decide) rfl ?_
  intro p e s m args below meth c s₁ BB hml hv
  obtain ⟨⟨rfl, hsz, hP, hE, hD0, hF, hZ⟩, hN⟩ := hv
  have hx := BB.exec
  have hb := BB.bytes
  have hr := BB.returns
  have hts := atoms_spec (ws := wsL_move) BB.pre
  have hown : s.vm.findClass RL = some m.cls := findClass_of_methodNamed BB.named
  have hlocks := BB.notSynchronized
  subst hsz
  have hD := hD0.self (sz := s.heap.size)
  have hA : ∀ q : Nat, s.heap.size ≤ q → (va_A (wJ (uOut cy oa f) Ww) s.heap.size) q := fun q h => Or.inr h
  have hS : va_S (va_A (wJ (uOut cy oa f) Ww) s.heap.size) s.heap s.heap [] := va_S.rf
  obtain ⟨A0, hA0⟩ : ∃ A0 : Nat → Prop, A0 = va_A (wJ (uOut cy oa f) Ww) s.heap.size := ⟨_, rfl⟩
  rw [← hA0]
  rw [← hA0] at hD hA hS hZ
  have hl := lv_entry ([.ref vo, .int a0, .int a1, .ref oa]) (n := 5) (Nat.le_of_ble_eq_true rfl)
  rw [lg_entry_eq]
  generalize (lg_sl ([.ref vo, .int a0, .int a1, .ref oa]) ++ List.replicate (5 - (lg_sl ([.ref vo, .int a0, .int a1, .ref oa])).length) Slot.unset).toArray = ls at hl ⊢
  have hl : lv_has ls 5 [(0, .ref vo), (1, .int a0), (2, .int a1), (3, .ref oa)] := hl
  refine lv_aload_n hx hb dL_move_0 rfl (lv_at hl 3 rfl) ?_
  refine lv_iconst (v := 0) hx hb dL_move_1 (by decide) ?_
  refine vg_tp (nI 0) rfl ?_
  refine lv_aload_n hx hb dL_move_2 rfl (lv_at hl 0 rfl) ?_
  refine lv_iload_n hx hb dL_move_3 rfl (lv_at hl 1 rfl) ?_
  refine lv_iload_n hx hb dL_move_4 rfl (lv_at hl 2 rfl) ?_
  have hp9 : (wJ (uOut cy oa f) Ww : va_W).Perm (wJ Wc (wJ (uOut cy oa f) Wr)) := ((List.Perm.append_left (uOut cy oa f) hpw).trans (vp_pc (fun n9 hn9 h90 => by simp only [wJ, hn9, h90, Nat.add_zero, Nat.zero_add] <;> ac_rfl)))
  have hP8 := vp_perm hP hp9
  have hD8 := vd_perm hp9 hD
  have hF8 := vj_free hD8 hS hA
  have hDc : va_D (va_A Wc s.heap.size) Wc := ((vd_app.mp hD8).1.weaken (fun _ _ _ _ => trivial) : va_D (fun _ => True) Wc).self (sz := s.heap.size)
  refine vx_callv (vx_runV (As := [.int a0, .int a1]) (rest := [.int (nI 0), .ref oa]) ⟨hx, hb, hml, hown, hts⟩ (hM s.heap.size) (cwV 2 hts gL_move_X4_move rfl hrm.1 hrm.2.1 (by decide +kernel) ⟨by show rm.frames + 1 ≤ 13; omega, by show 8 + (5 + 11) + rm.locals ≤ 345; omega⟩) (vh_P.preV hE hF hZ hS (vj_free (vd_perm hp9 hD) hS hA) hP (k0 + 1) (by rw [wJ, uOut, List.singleton_append, List.getElem?_cons_succ]; exact hk0) rfl (vp_app.mp (vp_perm hP hp9)).1 (vd_app.mp (vd_perm hp9 hD)).1) rfl rfl hl.1 rfl (lv_room (Nat.le_of_ble_eq_true rfl)) dL_move_5 ⟨by show 0 + mc ≤ 12; omega, by show 0 + ms ≤ 12351; omega⟩) hS (fun q _ h => hF8 q h) hF8 (fun q _ h => hF8 q h) (fun E9 ce q9 u t H1 locs1 ht1 hvm _ hB hz hk hS1 hce hcv hcl => ?_) (fun u t H1 locs1 _ _ hpost => hpost.elim)
  obtain ⟨rfl, hP1⟩ := hB
  rw [ht1] at hP1
  obtain ⟨a81, a82⟩ := vj_join hP8 hD8 hk hF8 hP1 hDc
  have hP : va_P D vwCl (wJ (uOut cy oa f) Ww) H1 := vp_perm a81 hp9.symm
  have hD : va_D A0 (wJ (uOut cy oa f) Ww) := vd_perm hp9.symm a82
  have htab : c.exceptionTable.toList = tableOf [(0, 10, 13, 13), (0, 10, 17, 15)] := vx_table (x := yL_move) BB (hts _ List.mem_cons_self)
  refine vx_catch (own := RL) (name := "java/lang/IllegalStateException") hown (tableOf [(0, 10, 13, 13)]) ⟨0, 10, 17, 15⟩ (tableOf []) (by rw [htab]; rfl) ?_ (by decide) (by decide) (hts (.classLink RL 15 "java/lang/IllegalStateException") (by decide +kernel)) (va_Nw.use rfl (hF.2.2.2.2.2 (.castable "java/lang/IllegalStateException" "java/lang/IllegalStateException") (by decide +kernel))) hce hcv hcl ?_
  · intro z hz
    simp only [tableOf, List.map_cons, List.map_nil, List.mem_cons, List.not_mem_nil, or_false] at hz
    rcases hz with rfl
    · exact Or.inr ⟨by decide, "java/lang/IndexOutOfBoundsException", hts (.classLink RL 13 "java/lang/IndexOutOfBoundsException") (by decide +kernel), hN.2.1⟩
  refine lv_astore (lv' := [(4, .ref q9), (0, .ref vo), (1, .int a0), (2, .int a1), (3, .ref oa)]) hx hb dL_move_17 hl (by decide) rfl (fun ls hl => ?_)
  refine lv_iconst (v := 2) hx hb dL_move_19 (by decide) ?_
  subst hA0
  refine W.widen (k := 12) (n := 12351) (by omega) (by omega) ?_
  exact W.iret (v := 2) hx hb hr (fun t ht hW => ⟨⟨2, (), rfl, rfl, (by rw [ht]; exact hP), hD⟩, hS1.F ht⟩) hS1.2.2 dL_move_20

set_option maxHeartbeats 4000000 in
set_option maxRecDepth 100000 in
theorem kL_post_ok {S : Type} (l : Launch) (D : va_G) (cy : Nat → ClassId) (sz e0 mi : Nat) (vo : Nat) (a0 : Int32) (a1 : Int32) (a2 : Int32) (a3 : Int32) (oa : Nat) (f : Nat → Int64) (Ww Wc Wr : va_W) (k0 : Nat) (fs : List Value) (hk0 : Ww[k0]? = some (vo, .inr (5, fs))) (hpw : Ww.Perm (wJ Wc Wr)) (W1 : S → va_W) (post : Int32 → S → Prop) {rm : Room} {mc ms : Nat} (hrm : rm.cells = mc ∧ rm.slots = ms ∧ rm.frames ≤ 12 ∧ rm.locals ≤ 314 ∧ mc ≤ 12 ∧ ms ≤ 12351) (hM : ∀ sz : Nat, Met l yX4_post wsX4_post rm (vh_P D cy e0 mi [.ref vo, .int a0, .int a1, .int a2, .int a3] sz Wc) (vg_Qi (S := S) D sz Wc post W1) mc ms (va_A Wc sz)) : Met l yL_post wsL_post ({ frames := 13, cells := 12, slots := 12351, locals := 345 }) (vk_P D cy e0 mi [.ref vo, .int a0, .int a1, .int a2, .int a3, .ref oa] sz (wJ (uOut cy oa f) Ww)) (vg_Qi (S := Int32 × S) D sz (wJ (uOut cy oa f) Ww) (fun r u => r = 0 ∧ post u.1 u.2) (fun u => wJ (uOut cy oa (vp_updL f 0 u.1.toInt64)) (wJ (W1 u.2) Wr))) 12 12351 (va_A (wJ (uOut cy oa f) Ww) sz) := by
  refine vw_ofWH (cc := cL_post) (maxL := 7) (ret := some .int) (hh := [(0, 14, 17, 13), (0, 14, 21, 21), (0, 14, 25, 15)]) (by decide) rfl ?_
  intro p e s m args below meth c s₁ BB hml hv
  obtain ⟨⟨rfl, hsz, hP, hE, hD0, hF, hZ⟩, hN⟩ := hv
  have hx := BB.exec
  have hb := BB.bytes
  have hr := BB.returns
  have hts := atoms_spec (ws := wsL_post) BB.pre
  have hown : s.vm.findClass RL = some m.cls := findClass_of_methodNamed BB.named
  have hlocks := BB.notSynchronized
  subst hsz
  have hD := hD0.self (sz := s.heap.size)
  have hA : ∀ q : Nat, s.heap.size ≤ q → (va_A (wJ (uOut cy oa f) Ww) s.heap.size) q := fun q h => Or.inr h
  have hS : va_S (va_A (wJ (uOut cy oa f) Ww) s.heap.size) s.heap s.heap [] := va_S.rf
  obtain ⟨A0, hA0⟩ : ∃ A0 : Nat → Prop, A0 = va_A (wJ (uOut cy oa f) Ww) s.heap.size := ⟨_, rfl⟩
  rw [← hA0]
  rw [← hA0] at hD hA hS hZ
  have hl := lv_entry ([.ref vo, .int a0, .int a1, .int a2, .int a3, .ref oa]) (n := 7) (Nat.le_of_ble_eq_true rfl)
  rw [lg_entry_eq]
  generalize (lg_sl ([.ref vo, .int a0, .int a1, .int a2, .int a3, .ref oa]) ++ List.replicate (7 - (lg_sl ([.ref vo, .int a0, .int a1, .int a2, .int a3, .ref oa])).length) Slot.unset).toArray = ls at hl ⊢
  have hl : lv_has ls 7 [(0, .ref vo), (1, .int a0), (2, .int a1), (3, .int a2), (4, .int a3), (5, .ref oa)] := hl
  refine lv_aload hx hb dL_post_0 (lv_at hl 5 rfl) ?_
  refine lv_iconst (v := 0) hx hb dL_post_2 (by decide) ?_
  refine vg_tp (nI 0) rfl ?_
  refine lv_aload_n hx hb dL_post_3 rfl (lv_at hl 0 rfl) ?_
  refine lv_iload_n hx hb dL_post_4 rfl (lv_at hl 1 rfl) ?_
  refine lv_iload_n hx hb dL_post_5 rfl (lv_at hl 2 rfl) ?_
  refine lv_iload_n hx hb dL_post_6 rfl (lv_at hl 3 rfl) ?_
  refine lv_iload hx hb dL_post_7 (lv_at hl 4 rfl) ?_
  have hp9 : (wJ (uOut cy oa f) Ww : va_W).Perm (wJ Wc (wJ (uOut cy oa f) Wr)) := ((List.Perm.append_left (uOut cy oa f) hpw).trans (vp_pc (fun n9 hn9 h90 => by simp only [wJ, hn9, h90, Nat.add_zero, Nat.zero_add] <;> ac_rfl)))
  refine vj_calli (va_runV (As := [.int a0, .int a1, .int a2, .int a3]) (rest := [.int (nI 0), .ref oa]) ⟨hx, hb, hml, hown, hts⟩ (hM s.heap.size) (cwV 4 hts gL_post_X4_post rfl hrm.1 hrm.2.1 (by decide +kernel) ⟨by show rm.frames + 1 ≤ 13; omega, by show 8 + (10 + 11) + rm.locals ≤ 345; omega⟩) (vh_P.preV hE hF hZ hS (vj_free (vd_perm hp9 hD) hS hA) hP (k0 + 1) (by rw [wJ, uOut, List.singleton_append, List.getElem?_cons_succ]; exact hk0) rfl (vp_app.mp (vp_perm hP hp9)).1 (vd_app.mp (vd_perm hp9 hD)).1) rfl rfl hl.1 rfl (lv_room (Nat.le_of_ble_eq_true rfl)) dL_post_9 ⟨by show 0 + mc ≤ 12; omega, by show 0 + ms ≤ 12351; omega⟩) hP hD hS hA hp9 (fun r u H locs hu hP hD hS => ?_)
  have hp7 : (wJ (W1 u) (wJ (uOut cy oa f) Wr) : va_W).Perm (wJ (uOut cy oa f) (wJ (W1 u) Wr)) := (vp_pc (fun n9 hn9 h90 => by simp only [wJ, hn9, h90, Nat.add_zero, Nat.zero_add] <;> ac_rfl))
  have hP : va_P D vwCl (wJ (uOut cy oa f) (wJ (W1 u) Wr)) H := vp_perm hP hp7
  have hD : va_D A0 (wJ (uOut cy oa f) (wJ (W1 u) Wr)) := vd_perm hp7 hD
  refine lv_i2l (v := r.toInt64) hx hb dL_post_12 rfl ?_
  refine vg_last hx hb hE.1 hP hD hS 0 1 rfl rfl (f := f) (j := 0) (by decide) (by decide) dL_post_13 (fun H locs hP hD hS => ?_)
  have hP : va_P D vwCl (wJ (uOut cy oa (vp_updL f 0 r.toInt64)) (wJ (W1 u) Wr)) H := hP
  have hD : va_D A0 (wJ (uOut cy oa (vp_updL f 0 r.toInt64)) (wJ (W1 u) Wr)) := hD
  refine lv_goto (tgt := 29) hx hb dL_post_14 (by decide) ?_
  refine lv_iconst (v := 0) hx hb dL_post_29 (by decide) ?_
  subst hA0
  refine W.widen (k := 12) (n := 12351) (by omega) (by omega) ?_
  exact W.iret (v := 0) hx hb hr (fun t ht hW => ⟨⟨0, (r, u), rfl, ⟨rfl, hu⟩, (by rw [ht]; exact hP), hD⟩, hS.F ht⟩) hS.2.2 dL_post_30

set_option maxHeartbeats 4000000 in
set_option maxRecDepth 100000 in
theorem kL_post_O (l : Launch) (D : va_G) (cy : Nat → ClassId) (sz e0 mi : Nat) (vo : Nat) (a0 : Int32) (a1 : Int32) (a2 : Int32) (a3 : Int32) (oa : Nat) (f : Nat → Int64) (Ww Wc Wr : va_W) (k0 : Nat) (fs : List Value) (hk0 : Ww[k0]? = some (vo, .inr (5, fs))) (hpw : Ww.Perm (wJ Wc Wr)) {rm : Room} {mc ms : Nat} (hrm : rm.cells = mc ∧ rm.slots = ms ∧ rm.frames ≤ 12 ∧ rm.locals ≤ 314 ∧ mc ≤ 12 ∧ ms ≤ 12351) (hM : ∀ sz : Nat, vx_Met l yX4_post wsX4_post rm (vh_P D cy e0 mi [.ref vo, .int a0, .int a1, .int a2, .int a3] sz Wc) (vh_N Wc sz) (vh_X D "java/lang/IndexOutOfBoundsException" Wc sz) mc ms (va_A Wc sz)) : Met l yL_post wsL_post ({ frames := 13, cells := 12, slots := 12351, locals := 345 }) (vk_P D cy e0 mi [.ref vo, .int a0, .int a1, .int a2, .int a3, .ref oa] sz (wJ (uOut cy oa f) Ww)) (vg_Qi (S := Unit) D sz (wJ (uOut cy oa f) Ww) (fun r _ => r = 1) (fun _ => wJ (uOut cy oa f) Ww)) 12 12351 (va_A (wJ (uOut cy oa f) Ww) sz) := by
  refine vw_ofWH (cc := cL_post) (maxL := 7) (ret := some .int) (hh := [(0, 14, 17, 13), (0, 14, 21, 21), (0, 14, 25, 15)]) (by decide) rfl ?_
  intro p e s m args below meth c s₁ BB hml hv
  obtain ⟨⟨rfl, hsz, hP, hE, hD0, hF, hZ⟩, hN⟩ := hv
  have hx := BB.exec
  have hb := BB.bytes
  have hr := BB.returns
  have hts := atoms_spec (ws := wsL_post) BB.pre
  have hown : s.vm.findClass RL = some m.cls := findClass_of_methodNamed BB.named
  have hlocks := BB.notSynchronized
  subst hsz
  have hD := hD0.self (sz := s.heap.size)
  have hA : ∀ q : Nat, s.heap.size ≤ q → (va_A (wJ (uOut cy oa f) Ww) s.heap.size) q := fun q h => Or.inr h
  have hS : va_S (va_A (wJ (uOut cy oa f) Ww) s.heap.size) s.heap s.heap [] := va_S.rf
  obtain ⟨A0, hA0⟩ : ∃ A0 : Nat → Prop, A0 = va_A (wJ (uOut cy oa f) Ww) s.heap.size := ⟨_, rfl⟩
  rw [← hA0]
  rw [← hA0] at hD hA hS hZ
  have hl := lv_entry ([.ref vo, .int a0, .int a1, .int a2, .int a3, .ref oa]) (n := 7) (Nat.le_of_ble_eq_true rfl)
  rw [lg_entry_eq]
  generalize (lg_sl ([.ref vo, .int a0, .int a1, .int a2, .int a3, .ref oa]) ++ List.replicate (7 - (lg_sl ([.ref vo, .int a0, .int a1, .int a2, .int a3, .ref oa])).length) Slot.unset).toArray = ls at hl ⊢
  have hl : lv_has ls 7 [(0, .ref vo), (1, .int a0), (2, .int a1), (3, .int a2), (4, .int a3), (5, .ref oa)] := hl
  refine lv_aload hx hb dL_post_0 (lv_at hl 5 rfl) ?_
  refine lv_iconst (v := 0) hx hb dL_post_2 (by decide) ?_
  refine vg_tp (nI 0) rfl ?_
  refine lv_aload_n hx hb dL_post_3 rfl (lv_at hl 0 rfl) ?_
  refine lv_iload_n hx hb dL_post_4 rfl (lv_at hl 1 rfl) ?_
  refine lv_iload_n hx hb dL_post_5 rfl (lv_at hl 2 rfl) ?_
  refine lv_iload_n hx hb dL_post_6 rfl (lv_at hl 3 rfl) ?_
  refine lv_iload hx hb dL_post_7 (lv_at hl 4 rfl) ?_
  have hp9 : (wJ (uOut cy oa f) Ww : va_W).Perm (wJ Wc (wJ (uOut cy oa f) Wr)) := ((List.Perm.append_left (uOut cy oa f) hpw).trans (vp_pc (fun n9 hn9 h90 => by simp only [wJ, hn9, h90, Nat.add_zero, Nat.zero_add] <;> ac_rfl)))
  have hP8 := vp_perm hP hp9
  have hD8 := vd_perm hp9 hD
  have hF8 := vj_free hD8 hS hA
  have hDc : va_D (va_A Wc s.heap.size) Wc := ((vd_app.mp hD8).1.weaken (fun _ _ _ _ => trivial) : va_D (fun _ => True) Wc).self (sz := s.heap.size)
  refine vx_callv (vx_runV (As := [.int a0, .int a1, .int a2, .int a3]) (rest := [.int (nI 0), .ref oa]) ⟨hx, hb, hml, hown, hts⟩ (hM s.heap.size) (cwV 4 hts gL_post_X4_post rfl hrm.1 hrm.2.1 (by decide +kernel) ⟨by show rm.frames + 1 ≤ 13; omega, by show 8 + (10 + 11) + rm.locals ≤ 345; omega⟩) (vh_P.preV hE hF hZ hS (vj_free (vd_perm hp9 hD) hS hA) hP (k0 + 1) (by rw [wJ, uOut, List.singleton_append, List.getElem?_cons_succ]; exact hk0) rfl (vp_app.mp (vp_perm hP hp9)).1 (vd_app.mp (vd_perm hp9 hD)).1) rfl rfl hl.1 rfl (lv_room (Nat.le_of_ble_eq_true rfl)) dL_post_9 ⟨by show 0 + mc ≤ 12; omega, by show 0 + ms ≤ 12351; omega⟩) hS (fun q _ h => hF8 q h) hF8 (fun q _ h => hF8 q h) (fun E9 ce q9 u t H1 locs1 ht1 hvm _ hB hz hk hS1 hce hcv hcl => ?_) (fun u t H1 locs1 _ _ hpost => hpost.elim)
  obtain ⟨rfl, hP1⟩ := hB
  rw [ht1] at hP1
  obtain ⟨a81, a82⟩ := vj_join hP8 hD8 hk hF8 hP1 hDc
  have hP : va_P D vwCl (wJ (uOut cy oa f) Ww) H1 := vp_perm a81 hp9.symm
  have hD : va_D A0 (wJ (uOut cy oa f) Ww) := vd_perm hp9.symm a82
  have htab : c.exceptionTable.toList = tableOf [(0, 14, 17, 13), (0, 14, 21, 21), (0, 14, 25, 15)] := vx_table (x := yL_post) BB (hts _ List.mem_cons_self)
  refine vx_catch (own := RL) (name := "java/lang/IndexOutOfBoundsException") hown (tableOf []) ⟨0, 14, 17, 13⟩ (tableOf [(0, 14, 21, 21), (0, 14, 25, 15)]) (by rw [htab]; rfl) (fun z hz => nomatch hz) (by decide) (by decide) (hts (.classLink RL 13 "java/lang/IndexOutOfBoundsException") (by decide +kernel)) (va_Nw.use rfl (hF.2.2.2.2.2 (.castable "java/lang/IndexOutOfBoundsException" "java/lang/IndexOutOfBoundsException") (by decide +kernel))) hce hcv hcl ?_
  refine lv_astore (lv' := [(6, .ref q9), (0, .ref vo), (1, .int a0), (2, .int a1), (3, .int a2), (4, .int a3), (5, .ref oa)]) hx hb dL_post_17 hl (by decide) rfl (fun ls hl => ?_)
  refine lv_iconst (v := 1) hx hb dL_post_19 (by decide) ?_
  subst hA0
  refine W.widen (k := 12) (n := 12351) (by omega) (by omega) ?_
  exact W.iret (v := 1) hx hb hr (fun t ht hW => ⟨⟨1, (), rfl, rfl, (by rw [ht]; exact hP), hD⟩, hS1.F ht⟩) hS1.2.2 dL_post_20

set_option maxHeartbeats 4000000 in
set_option maxRecDepth 100000 in
theorem kL_post_A (l : Launch) (D : va_G) (cy : Nat → ClassId) (sz e0 mi : Nat) (vo : Nat) (a0 : Int32) (a1 : Int32) (a2 : Int32) (a3 : Int32) (oa : Nat) (f : Nat → Int64) (Ww Wc Wr : va_W) (k0 : Nat) (fs : List Value) (hk0 : Ww[k0]? = some (vo, .inr (5, fs))) (hpw : Ww.Perm (wJ Wc Wr)) {rm : Room} {mc ms : Nat} (hrm : rm.cells = mc ∧ rm.slots = ms ∧ rm.frames ≤ 12 ∧ rm.locals ≤ 314 ∧ mc ≤ 12 ∧ ms ≤ 12351) (hM : ∀ sz : Nat, vx_Met l yX4_post wsX4_post rm (vh_P D cy e0 mi [.ref vo, .int a0, .int a1, .int a2, .int a3] sz Wc) (vh_N Wc sz) (vh_X D "java/lang/IllegalArgumentException" Wc sz) mc ms (va_A Wc sz)) : Met l yL_post wsL_post ({ frames := 13, cells := 12, slots := 12351, locals := 345 }) (vk_P D cy e0 mi [.ref vo, .int a0, .int a1, .int a2, .int a3, .ref oa] sz (wJ (uOut cy oa f) Ww)) (vg_Qi (S := Unit) D sz (wJ (uOut cy oa f) Ww) (fun r _ => r = 2) (fun _ => wJ (uOut cy oa f) Ww)) 12 12351 (va_A (wJ (uOut cy oa f) Ww) sz) := by
  refine vw_ofWH (cc := cL_post) (maxL := 7) (ret := some .int) (hh := [(0, 14, 17, 13), (0, 14, 21, 21), (0, 14, 25, 15)]) (by decide) rfl ?_
  intro p e s m args below meth c s₁ BB hml hv
  obtain ⟨⟨rfl, hsz, hP, hE, hD0, hF, hZ⟩, hN⟩ := hv
  have hx := BB.exec
  have hb := BB.bytes
  have hr := BB.returns
  have hts := atoms_spec (ws := wsL_post) BB.pre
  have hown : s.vm.findClass RL = some m.cls := findClass_of_methodNamed BB.named
  have hlocks := BB.notSynchronized
  subst hsz
  have hD := hD0.self (sz := s.heap.size)
  have hA : ∀ q : Nat, s.heap.size ≤ q → (va_A (wJ (uOut cy oa f) Ww) s.heap.size) q := fun q h => Or.inr h
  have hS : va_S (va_A (wJ (uOut cy oa f) Ww) s.heap.size) s.heap s.heap [] := va_S.rf
  obtain ⟨A0, hA0⟩ : ∃ A0 : Nat → Prop, A0 = va_A (wJ (uOut cy oa f) Ww) s.heap.size := ⟨_, rfl⟩
  rw [← hA0]
  rw [← hA0] at hD hA hS hZ
  have hl := lv_entry ([.ref vo, .int a0, .int a1, .int a2, .int a3, .ref oa]) (n := 7) (Nat.le_of_ble_eq_true rfl)
  rw [lg_entry_eq]
  generalize (lg_sl ([.ref vo, .int a0, .int a1, .int a2, .int a3, .ref oa]) ++ List.replicate (7 - (lg_sl ([.ref vo, .int a0, .int a1, .int a2, .int a3, .ref oa])).length) Slot.unset).toArray = ls at hl ⊢
  have hl : lv_has ls 7 [(0, .ref vo), (1, .int a0), (2, .int a1), (3, .int a2), (4, .int a3), (5, .ref oa)] := hl
  refine lv_aload hx hb dL_post_0 (lv_at hl 5 rfl) ?_
  refine lv_iconst (v := 0) hx hb dL_post_2 (by decide) ?_
  refine vg_tp (nI 0) rfl ?_
  refine lv_aload_n hx hb dL_post_3 rfl (lv_at hl 0 rfl) ?_
  refine lv_iload_n hx hb dL_post_4 rfl (lv_at hl 1 rfl) ?_
  refine lv_iload_n hx hb dL_post_5 rfl (lv_at hl 2 rfl) ?_
  refine lv_iload_n hx hb dL_post_6 rfl (lv_at hl 3 rfl) ?_
  refine lv_iload hx hb dL_post_7 (lv_at hl 4 rfl) ?_
  have hp9 : (wJ (uOut cy oa f) Ww : va_W).Perm (wJ Wc (wJ (uOut cy oa f) Wr)) := ((List.Perm.append_left (uOut cy oa f) hpw).trans (vp_pc (fun n9 hn9 h90 => by simp only [wJ, hn9, h90, Nat.add_zero, Nat.zero_add] <;> ac_rfl)))
  have hP8 := vp_perm hP hp9
  have hD8 := vd_perm hp9 hD
  have hF8 := vj_free hD8 hS hA
  have hDc : va_D (va_A Wc s.heap.size) Wc := ((vd_app.mp hD8).1.weaken (fun _ _ _ _ => trivial) : va_D (fun _ => True) Wc).self (sz := s.heap.size)
  refine vx_callv (vx_runV (As := [.int a0, .int a1, .int a2, .int a3]) (rest := [.int (nI 0), .ref oa]) ⟨hx, hb, hml, hown, hts⟩ (hM s.heap.size) (cwV 4 hts gL_post_X4_post rfl hrm.1 hrm.2.1 (by decide +kernel) ⟨by show rm.frames + 1 ≤ 13; omega, by show 8 + (10 + 11) + rm.locals ≤ 345; omega⟩) (vh_P.preV hE hF hZ hS (vj_free (vd_perm hp9 hD) hS hA) hP (k0 + 1) (by rw [wJ, uOut, List.singleton_append, List.getElem?_cons_succ]; exact hk0) rfl (vp_app.mp (vp_perm hP hp9)).1 (vd_app.mp (vd_perm hp9 hD)).1) rfl rfl hl.1 rfl (lv_room (Nat.le_of_ble_eq_true rfl)) dL_post_9 ⟨by show 0 + mc ≤ 12; omega, by show 0 + ms ≤ 12351; omega⟩) hS (fun q _ h => hF8 q h) hF8 (fun q _ h => hF8 q h) (fun E9 ce q9 u t H1 locs1 ht1 hvm _ hB hz hk hS1 hce hcv hcl => ?_) (fun u t H1 locs1 _ _ hpost => hpost.elim)
  obtain ⟨rfl, hP1⟩ := hB
  rw [ht1] at hP1
  obtain ⟨a81, a82⟩ := vj_join hP8 hD8 hk hF8 hP1 hDc
  have hP : va_P D vwCl (wJ (uOut cy oa f) Ww) H1 := vp_perm a81 hp9.symm
  have hD : va_D A0 (wJ (uOut cy oa f) Ww) := vd_perm hp9.symm a82
  have htab : c.exceptionTable.toList = tableOf [(0, 14, 17, 13), (0, 14, 21, 21), (0, 14, 25, 15)] := vx_table (x := yL_post) BB (hts _ List.mem_cons_self)
  refine vx_catch (own := RL) (name := "java/lang/IllegalArgumentException") hown (tableOf [(0, 14, 17, 13)]) ⟨0, 14, 21, 21⟩ (tableOf [(0, 14, 25, 15)]) (by rw [htab]; rfl) ?_ (by decide) (by decide) (hts (.classLink RL 21 "java/lang/IllegalArgumentException") (by decide +kernel)) (va_Nw.use rfl (hF.2.2.2.2.2 (.castable "java/lang/IllegalArgumentException" "java/lang/IllegalArgumentException") (by decide +kernel))) hce hcv hcl ?_
  · intro z hz
    simp only [tableOf, List.map_cons, List.map_nil, List.mem_cons, List.not_mem_nil, or_false] at hz
    rcases hz with rfl
    · exact Or.inr ⟨by decide, "java/lang/IndexOutOfBoundsException", hts (.classLink RL 13 "java/lang/IndexOutOfBoundsException") (by decide +kernel), hN.1⟩
  refine lv_astore (lv' := [(6, .ref q9), (0, .ref vo), (1, .int a0), (2, .int a1), (3, .int a2), (4, .int a3), (5, .ref oa)]) hx hb dL_post_21 hl (by decide) rfl (fun ls hl => ?_)
  refine lv_iconst (v := 2) hx hb dL_post_23 (by decide) ?_
  subst hA0
  refine W.widen (k := 12) (n := 12351) (by omega) (by omega) ?_
  exact W.iret (v := 2) hx hb hr (fun t ht hW => ⟨⟨2, (), rfl, rfl, (by rw [ht]; exact hP), hD⟩, hS1.F ht⟩) hS1.2.2 dL_post_24

set_option maxHeartbeats 4000000 in
set_option maxRecDepth 100000 in
theorem kL_post_S (l : Launch) (D : va_G) (cy : Nat → ClassId) (sz e0 mi : Nat) (vo : Nat) (a0 : Int32) (a1 : Int32) (a2 : Int32) (a3 : Int32) (oa : Nat) (f : Nat → Int64) (Ww Wc Wr : va_W) (k0 : Nat) (fs : List Value) (hk0 : Ww[k0]? = some (vo, .inr (5, fs))) (hpw : Ww.Perm (wJ Wc Wr)) {rm : Room} {mc ms : Nat} (hrm : rm.cells = mc ∧ rm.slots = ms ∧ rm.frames ≤ 12 ∧ rm.locals ≤ 314 ∧ mc ≤ 12 ∧ ms ≤ 12351) (hM : ∀ sz : Nat, vx_Met l yX4_post wsX4_post rm (vh_P D cy e0 mi [.ref vo, .int a0, .int a1, .int a2, .int a3] sz Wc) (vh_N Wc sz) (vh_X D "java/lang/IllegalStateException" Wc sz) mc ms (va_A Wc sz)) : Met l yL_post wsL_post ({ frames := 13, cells := 12, slots := 12351, locals := 345 }) (vk_P D cy e0 mi [.ref vo, .int a0, .int a1, .int a2, .int a3, .ref oa] sz (wJ (uOut cy oa f) Ww)) (vg_Qi (S := Unit) D sz (wJ (uOut cy oa f) Ww) (fun r _ => r = 3) (fun _ => wJ (uOut cy oa f) Ww)) 12 12351 (va_A (wJ (uOut cy oa f) Ww) sz) := by
  refine vw_ofWH (cc := cL_post) (maxL := 7) (ret := some .int) (hh := [(0, 14, 17, 13), (0, 14, 21, 21), (0, 14, 25, 15)]) (by decide) rfl ?_
  intro p e s m args below meth c s₁ BB hml hv
  obtain ⟨⟨rfl, hsz, hP, hE, hD0, hF, hZ⟩, hN⟩ := hv
  have hx := BB.exec
  have hb := BB.bytes
  have hr := BB.returns
  have hts := atoms_spec (ws := wsL_post) BB.pre
  have hown : s.vm.findClass RL = some m.cls := findClass_of_methodNamed BB.named
  have hlocks := BB.notSynchronized
  subst hsz
  have hD := hD0.self (sz := s.heap.size)
  have hA : ∀ q : Nat, s.heap.size ≤ q → (va_A (wJ (uOut cy oa f) Ww) s.heap.size) q := fun q h => Or.inr h
  have hS : va_S (va_A (wJ (uOut cy oa f) Ww) s.heap.size) s.heap s.heap [] := va_S.rf
  obtain ⟨A0, hA0⟩ : ∃ A0 : Nat → Prop, A0 = va_A (wJ (uOut cy oa f) Ww) s.heap.size := ⟨_, rfl⟩
  rw [← hA0]
  rw [← hA0] at hD hA hS hZ
  have hl := lv_entry ([.ref vo, .int a0, .int a1, .int a2, .int a3, .ref oa]) (n := 7) (Nat.le_of_ble_eq_true rfl)
  rw [lg_entry_eq]
  generalize (lg_sl ([.ref vo, .int a0, .int a1, .int a2, .int a3, .ref oa]) ++ List.replicate (7 - (lg_sl ([.ref vo, .int a0, .int a1, .int a2, .int a3, .ref oa])).length) Slot.unset).toArray = ls at hl ⊢
  have hl : lv_has ls 7 [(0, .ref vo), (1, .int a0), (2, .int a1), (3, .int a2), (4, .int a3), (5, .ref oa)] := hl
  refine lv_aload hx hb dL_post_0 (lv_at hl 5 rfl) ?_
  refine lv_iconst (v := 0) hx hb dL_post_2 (by decide) ?_
  refine vg_tp (nI 0) rfl ?_
  refine lv_aload_n hx hb dL_post_3 rfl (lv_at hl 0 rfl) ?_
  refine lv_iload_n hx hb dL_post_4 rfl (lv_at hl 1 rfl) ?_
  refine lv_iload_n hx hb dL_post_5 rfl (lv_at hl 2 rfl) ?_
  refine lv_iload_n hx hb dL_post_6 rfl (lv_at hl 3 rfl) ?_
  refine lv_iload hx hb dL_post_7 (lv_at hl 4 rfl) ?_
  have hp9 : (wJ (uOut cy oa f) Ww : va_W).Perm (wJ Wc (wJ (uOut cy oa f) Wr)) := ((List.Perm.append_left (uOut cy oa f) hpw).trans (vp_pc (fun n9 hn9 h90 => by simp only [wJ, hn9, h90, Nat.add_zero, Nat.zero_add] <;> ac_rfl)))
  have hP8 := vp_perm hP hp9
  have hD8 := vd_perm hp9 hD
  have hF8 := vj_free hD8 hS hA
  have hDc : va_D (va_A Wc s.heap.size) Wc := ((vd_app.mp hD8).1.weaken (fun _ _ _ _ => trivial) : va_D (fun _ => True) Wc).self (sz := s.heap.size)
  refine vx_callv (vx_runV (As := [.int a0, .int a1, .int a2, .int a3]) (rest := [.int (nI 0), .ref oa]) ⟨hx, hb, hml, hown, hts⟩ (hM s.heap.size) (cwV 4 hts gL_post_X4_post rfl hrm.1 hrm.2.1 (by decide +kernel) ⟨by show rm.frames + 1 ≤ 13; omega, by show 8 + (10 + 11) + rm.locals ≤ 345; omega⟩) (vh_P.preV hE hF hZ hS (vj_free (vd_perm hp9 hD) hS hA) hP (k0 + 1) (by rw [wJ, uOut, List.singleton_append, List.getElem?_cons_succ]; exact hk0) rfl (vp_app.mp (vp_perm hP hp9)).1 (vd_app.mp (vd_perm hp9 hD)).1) rfl rfl hl.1 rfl (lv_room (Nat.le_of_ble_eq_true rfl)) dL_post_9 ⟨by show 0 + mc ≤ 12; omega, by show 0 + ms ≤ 12351; omega⟩) hS (fun q _ h => hF8 q h) hF8 (fun q _ h => hF8 q h) (fun E9 ce q9 u t H1 locs1 ht1 hvm _ hB hz hk hS1 hce hcv hcl => ?_) (fun u t H1 locs1 _ _ hpost => hpost.elim)
  obtain ⟨rfl, hP1⟩ := hB
  rw [ht1] at hP1
  obtain ⟨a81, a82⟩ := vj_join hP8 hD8 hk hF8 hP1 hDc
  have hP : va_P D vwCl (wJ (uOut cy oa f) Ww) H1 := vp_perm a81 hp9.symm
  have hD : va_D A0 (wJ (uOut cy oa f) Ww) := vd_perm hp9.symm a82
  have htab : c.exceptionTable.toList = tableOf [(0, 14, 17, 13), (0, 14, 21, 21), (0, 14, 25, 15)] := vx_table (x := yL_post) BB (hts _ List.mem_cons_self)
  refine vx_catch (own := RL) (name := "java/lang/IllegalStateException") hown (tableOf [(0, 14, 17, 13), (0, 14, 21, 21)]) ⟨0, 14, 25, 15⟩ (tableOf []) (by rw [htab]; rfl) ?_ (by decide) (by decide) (hts (.classLink RL 15 "java/lang/IllegalStateException") (by decide +kernel)) (va_Nw.use rfl (hF.2.2.2.2.2 (.castable "java/lang/IllegalStateException" "java/lang/IllegalStateException") (by decide +kernel))) hce hcv hcl ?_
  · intro z hz
    simp only [tableOf, List.map_cons, List.map_nil, List.mem_cons, List.not_mem_nil, or_false] at hz
    rcases hz with rfl | rfl
    · exact Or.inr ⟨by decide, "java/lang/IndexOutOfBoundsException", hts (.classLink RL 13 "java/lang/IndexOutOfBoundsException") (by decide +kernel), hN.2.1⟩
    · exact Or.inr ⟨by decide, "java/lang/IllegalArgumentException", hts (.classLink RL 21 "java/lang/IllegalArgumentException") (by decide +kernel), hN.2.2⟩
  refine lv_astore (lv' := [(6, .ref q9), (0, .ref vo), (1, .int a0), (2, .int a1), (3, .int a2), (4, .int a3), (5, .ref oa)]) hx hb dL_post_25 hl (by decide) rfl (fun ls hl => ?_)
  refine lv_iconst (v := 3) hx hb dL_post_27 (by decide) ?_
  subst hA0
  refine W.widen (k := 12) (n := 12351) (by omega) (by omega) ?_
  exact W.iret (v := 3) hx hb hr (fun t ht hW => ⟨⟨3, (), rfl, rfl, (by rw [ht]; exact hP), hD⟩, hS1.F ht⟩) hS1.2.2 dL_post_28

set_option maxHeartbeats 4000000 in
set_option maxRecDepth 100000 in
theorem kL_delete_ok {S : Type} (l : Launch) (D : va_G) (cy : Nat → ClassId) (sz e0 mi : Nat) (vo : Nat) (a0 : Int32) (oa : Nat) (f : Nat → Int64) (Ww Wc Wr : va_W) (k0 : Nat) (fs : List Value) (hk0 : Ww[k0]? = some (vo, .inr (5, fs))) (hpw : Ww.Perm (wJ Wc Wr)) (W1 : S → va_W) (post : Int32 → S → Prop) {rm : Room} {mc ms : Nat} (hrm : rm.cells = mc ∧ rm.slots = ms ∧ rm.frames ≤ 12 ∧ rm.locals ≤ 314 ∧ mc ≤ 12 ∧ ms ≤ 12351) (hM : ∀ sz : Nat, Met l yX4_delete wsX4_delete rm (vh_P D cy e0 mi [.ref vo, .int a0] sz Wc) (vg_Qi (S := S) D sz Wc post W1) mc ms (va_A Wc sz)) : Met l yL_delete wsL_delete ({ frames := 13, cells := 12, slots := 12351, locals := 345 }) (vk_P D cy e0 mi [.ref vo, .int a0, .ref oa] sz (wJ (uOut cy oa f) Ww)) (vg_Qi (S := Int32 × S) D sz (wJ (uOut cy oa f) Ww) (fun r u => r = 0 ∧ post u.1 u.2) (fun u => wJ (uOut cy oa (vp_updL f 0 u.1.toInt64)) (wJ (W1 u.2) Wr))) 12 12351 (va_A (wJ (uOut cy oa f) Ww) sz) := by
  refine vw_ofWH (cc := cL_delete) (maxL := 4) (ret := some .int) (hh := [(0, 9, 12, 13), (0, 9, 15, 15)]) (by decide) rfl ?_
  intro p e s m args below meth c s₁ BB hml hv
  obtain ⟨⟨rfl, hsz, hP, hE, hD0, hF, hZ⟩, hN⟩ := hv
  have hx := BB.exec
  have hb := BB.bytes
  have hr := BB.returns
  have hts := atoms_spec (ws := wsL_delete) BB.pre
  have hown : s.vm.findClass RL = some m.cls := findClass_of_methodNamed BB.named
  have hlocks := BB.notSynchronized
  subst hsz
  have hD := hD0.self (sz := s.heap.size)
  have hA : ∀ q : Nat, s.heap.size ≤ q → (va_A (wJ (uOut cy oa f) Ww) s.heap.size) q := fun q h => Or.inr h
  have hS : va_S (va_A (wJ (uOut cy oa f) Ww) s.heap.size) s.heap s.heap [] := va_S.rf
  obtain ⟨A0, hA0⟩ : ∃ A0 : Nat → Prop, A0 = va_A (wJ (uOut cy oa f) Ww) s.heap.size := ⟨_, rfl⟩
  rw [← hA0]
  rw [← hA0] at hD hA hS hZ
  have hl := lv_entry ([.ref vo, .int a0, .ref oa]) (n := 4) (Nat.le_of_ble_eq_true rfl)
  rw [lg_entry_eq]
  generalize (lg_sl ([.ref vo, .int a0, .ref oa]) ++ List.replicate (4 - (lg_sl ([.ref vo, .int a0, .ref oa])).length) Slot.unset).toArray = ls at hl ⊢
  have hl : lv_has ls 4 [(0, .ref vo), (1, .int a0), (2, .ref oa)] := hl
  refine lv_aload_n hx hb dL_delete_0 rfl (lv_at hl 2 rfl) ?_
  refine lv_iconst (v := 0) hx hb dL_delete_1 (by decide) ?_
  refine vg_tp (nI 0) rfl ?_
  refine lv_aload_n hx hb dL_delete_2 rfl (lv_at hl 0 rfl) ?_
  refine lv_iload_n hx hb dL_delete_3 rfl (lv_at hl 1 rfl) ?_
  have hp9 : (wJ (uOut cy oa f) Ww : va_W).Perm (wJ Wc (wJ (uOut cy oa f) Wr)) := ((List.Perm.append_left (uOut cy oa f) hpw).trans (vp_pc (fun n9 hn9 h90 => by simp only [wJ, hn9, h90, Nat.add_zero, Nat.zero_add] <;> ac_rfl)))
  refine vj_calli (va_runV (As := [.int a0]) (rest := [.int (nI 0), .ref oa]) ⟨hx, hb, hml, hown, hts⟩ (hM s.heap.size) (cwV 1 hts gL_delete_X4_delete rfl hrm.1 hrm.2.1 (by decide +kernel) ⟨by show rm.frames + 1 ≤ 13; omega, by show 8 + (3 + 11) + rm.locals ≤ 345; omega⟩) (vh_P.preV hE hF hZ hS (vj_free (vd_perm hp9 hD) hS hA) hP (k0 + 1) (by rw [wJ, uOut, List.singleton_append, List.getElem?_cons_succ]; exact hk0) rfl (vp_app.mp (vp_perm hP hp9)).1 (vd_app.mp (vd_perm hp9 hD)).1) rfl rfl hl.1 rfl (lv_room (Nat.le_of_ble_eq_true rfl)) dL_delete_4 ⟨by show 0 + mc ≤ 12; omega, by show 0 + ms ≤ 12351; omega⟩) hP hD hS hA hp9 (fun r u H locs hu hP hD hS => ?_)
  have hp7 : (wJ (W1 u) (wJ (uOut cy oa f) Wr) : va_W).Perm (wJ (uOut cy oa f) (wJ (W1 u) Wr)) := (vp_pc (fun n9 hn9 h90 => by simp only [wJ, hn9, h90, Nat.add_zero, Nat.zero_add] <;> ac_rfl))
  have hP : va_P D vwCl (wJ (uOut cy oa f) (wJ (W1 u) Wr)) H := vp_perm hP hp7
  have hD : va_D A0 (wJ (uOut cy oa f) (wJ (W1 u) Wr)) := vd_perm hp7 hD
  refine lv_i2l (v := r.toInt64) hx hb dL_delete_7 rfl ?_
  refine vg_last hx hb hE.1 hP hD hS 0 1 rfl rfl (f := f) (j := 0) (by decide) (by decide) dL_delete_8 (fun H locs hP hD hS => ?_)
  have hP : va_P D vwCl (wJ (uOut cy oa (vp_updL f 0 r.toInt64)) (wJ (W1 u) Wr)) H := hP
  have hD : va_D A0 (wJ (uOut cy oa (vp_updL f 0 r.toInt64)) (wJ (W1 u) Wr)) := hD
  refine lv_goto (tgt := 18) hx hb dL_delete_9 (by decide) ?_
  refine lv_iconst (v := 0) hx hb dL_delete_18 (by decide) ?_
  subst hA0
  refine W.widen (k := 12) (n := 12351) (by omega) (by omega) ?_
  exact W.iret (v := 0) hx hb hr (fun t ht hW => ⟨⟨0, (r, u), rfl, ⟨rfl, hu⟩, (by rw [ht]; exact hP), hD⟩, hS.F ht⟩) hS.2.2 dL_delete_19

set_option maxHeartbeats 4000000 in
set_option maxRecDepth 100000 in
theorem kL_delete_O (l : Launch) (D : va_G) (cy : Nat → ClassId) (sz e0 mi : Nat) (vo : Nat) (a0 : Int32) (oa : Nat) (f : Nat → Int64) (Ww Wc Wr : va_W) (k0 : Nat) (fs : List Value) (hk0 : Ww[k0]? = some (vo, .inr (5, fs))) (hpw : Ww.Perm (wJ Wc Wr)) {rm : Room} {mc ms : Nat} (hrm : rm.cells = mc ∧ rm.slots = ms ∧ rm.frames ≤ 12 ∧ rm.locals ≤ 314 ∧ mc ≤ 12 ∧ ms ≤ 12351) (hM : ∀ sz : Nat, vx_Met l yX4_delete wsX4_delete rm (vh_P D cy e0 mi [.ref vo, .int a0] sz Wc) (vh_N Wc sz) (vh_X D "java/lang/IndexOutOfBoundsException" Wc sz) mc ms (va_A Wc sz)) : Met l yL_delete wsL_delete ({ frames := 13, cells := 12, slots := 12351, locals := 345 }) (vk_P D cy e0 mi [.ref vo, .int a0, .ref oa] sz (wJ (uOut cy oa f) Ww)) (vg_Qi (S := Unit) D sz (wJ (uOut cy oa f) Ww) (fun r _ => r = 1) (fun _ => wJ (uOut cy oa f) Ww)) 12 12351 (va_A (wJ (uOut cy oa f) Ww) sz) := by
  refine vw_ofWH (cc := cL_delete) (maxL := 4) (ret := some .int) (hh := [(0, 9, 12, 13), (0, 9, 15, 15)]) (by decide) rfl ?_
  intro p e s m args below meth c s₁ BB hml hv
  obtain ⟨⟨rfl, hsz, hP, hE, hD0, hF, hZ⟩, hN⟩ := hv
  have hx := BB.exec
  have hb := BB.bytes
  have hr := BB.returns
  have hts := atoms_spec (ws := wsL_delete) BB.pre
  have hown : s.vm.findClass RL = some m.cls := findClass_of_methodNamed BB.named
  have hlocks := BB.notSynchronized
  subst hsz
  have hD := hD0.self (sz := s.heap.size)
  have hA : ∀ q : Nat, s.heap.size ≤ q → (va_A (wJ (uOut cy oa f) Ww) s.heap.size) q := fun q h => Or.inr h
  have hS : va_S (va_A (wJ (uOut cy oa f) Ww) s.heap.size) s.heap s.heap [] := va_S.rf
  obtain ⟨A0, hA0⟩ : ∃ A0 : Nat → Prop, A0 = va_A (wJ (uOut cy oa f) Ww) s.heap.size := ⟨_, rfl⟩
  rw [← hA0]
  rw [← hA0] at hD hA hS hZ
  have hl := lv_entry ([.ref vo, .int a0, .ref oa]) (n := 4) (Nat.le_of_ble_eq_true rfl)
  rw [lg_entry_eq]
  generalize (lg_sl ([.ref vo, .int a0, .ref oa]) ++ List.replicate (4 - (lg_sl ([.ref vo, .int a0, .ref oa])).length) Slot.unset).toArray = ls at hl ⊢
  have hl : lv_has ls 4 [(0, .ref vo), (1, .int a0), (2, .ref oa)] := hl
  refine lv_aload_n hx hb dL_delete_0 rfl (lv_at hl 2 rfl) ?_
  refine lv_iconst (v := 0) hx hb dL_delete_1 (by decide) ?_
  refine vg_tp (nI 0) rfl ?_
  refine lv_aload_n hx hb dL_delete_2 rfl (lv_at hl 0 rfl) ?_
  refine lv_iload_n hx hb dL_delete_3 rfl (lv_at hl 1 rfl) ?_
  have hp9 : (wJ (uOut cy oa f) Ww : va_W).Perm (wJ Wc (wJ (uOut cy oa f) Wr)) := ((List.Perm.append_left (uOut cy oa f) hpw).trans (vp_pc (fun n9 hn9 h90 => by simp only [wJ, hn9, h90, Nat.add_zero, Nat.zero_add] <;> ac_rfl)))
  have hP8 := vp_perm hP hp9
  have hD8 := vd_perm hp9 hD
  have hF8 := vj_free hD8 hS hA
  have hDc : va_D (va_A Wc s.heap.size) Wc := ((vd_app.mp hD8).1.weaken (fun _ _ _ _ => trivial) : va_D (fun _ => True) Wc).self (sz := s.heap.size)
  refine vx_callv (vx_runV (As := [.int a0]) (rest := [.int (nI 0), .ref oa]) ⟨hx, hb, hml, hown, hts⟩ (hM s.heap.size) (cwV 1 hts gL_delete_X4_delete rfl hrm.1 hrm.2.1 (by decide +kernel) ⟨by show rm.frames + 1 ≤ 13; omega, by show 8 + (3 + 11) + rm.locals ≤ 345; omega⟩) (vh_P.preV hE hF hZ hS (vj_free (vd_perm hp9 hD) hS hA) hP (k0 + 1) (by rw [wJ, uOut, List.singleton_append, List.getElem?_cons_succ]; exact hk0) rfl (vp_app.mp (vp_perm hP hp9)).1 (vd_app.mp (vd_perm hp9 hD)).1) rfl rfl hl.1 rfl (lv_room (Nat.le_of_ble_eq_true rfl)) dL_delete_4 ⟨by show 0 + mc ≤ 12; omega, by show 0 + ms ≤ 12351; omega⟩) hS (fun q _ h => hF8 q h) hF8 (fun q _ h => hF8 q h) (fun E9 ce q9 u t H1 locs1 ht1 hvm _ hB hz hk hS1 hce hcv hcl => ?_) (fun u t H1 locs1 _ _ hpost => hpost.elim)
  obtain ⟨rfl, hP1⟩ := hB
  rw [ht1] at hP1
  obtain ⟨a81, a82⟩ := vj_join hP8 hD8 hk hF8 hP1 hDc
  have hP : va_P D vwCl (wJ (uOut cy oa f) Ww) H1 := vp_perm a81 hp9.symm
  have hD : va_D A0 (wJ (uOut cy oa f) Ww) := vd_perm hp9.symm a82
  have htab : c.exceptionTable.toList = tableOf [(0, 9, 12, 13), (0, 9, 15, 15)] := vx_table (x := yL_delete) BB (hts _ List.mem_cons_self)
  refine vx_catch (own := RL) (name := "java/lang/IndexOutOfBoundsException") hown (tableOf []) ⟨0, 9, 12, 13⟩ (tableOf [(0, 9, 15, 15)]) (by rw [htab]; rfl) (fun z hz => nomatch hz) (by decide) (by decide) (hts (.classLink RL 13 "java/lang/IndexOutOfBoundsException") (by decide +kernel)) (va_Nw.use rfl (hF.2.2.2.2.2 (.castable "java/lang/IndexOutOfBoundsException" "java/lang/IndexOutOfBoundsException") (by decide +kernel))) hce hcv hcl ?_
  refine lv_astore_n (lv' := [(3, .ref q9), (0, .ref vo), (1, .int a0), (2, .ref oa)]) hx hb dL_delete_12 rfl hl (by decide) rfl (fun ls hl => ?_)
  refine lv_iconst (v := 1) hx hb dL_delete_13 (by decide) ?_
  subst hA0
  refine W.widen (k := 12) (n := 12351) (by omega) (by omega) ?_
  exact W.iret (v := 1) hx hb hr (fun t ht hW => ⟨⟨1, (), rfl, rfl, (by rw [ht]; exact hP), hD⟩, hS1.F ht⟩) hS1.2.2 dL_delete_14

set_option maxHeartbeats 4000000 in
set_option maxRecDepth 100000 in
theorem kL_delete_S (l : Launch) (D : va_G) (cy : Nat → ClassId) (sz e0 mi : Nat) (vo : Nat) (a0 : Int32) (oa : Nat) (f : Nat → Int64) (Ww Wc Wr : va_W) (k0 : Nat) (fs : List Value) (hk0 : Ww[k0]? = some (vo, .inr (5, fs))) (hpw : Ww.Perm (wJ Wc Wr)) {rm : Room} {mc ms : Nat} (hrm : rm.cells = mc ∧ rm.slots = ms ∧ rm.frames ≤ 12 ∧ rm.locals ≤ 314 ∧ mc ≤ 12 ∧ ms ≤ 12351) (hM : ∀ sz : Nat, vx_Met l yX4_delete wsX4_delete rm (vh_P D cy e0 mi [.ref vo, .int a0] sz Wc) (vh_N Wc sz) (vh_X D "java/lang/IllegalStateException" Wc sz) mc ms (va_A Wc sz)) : Met l yL_delete wsL_delete ({ frames := 13, cells := 12, slots := 12351, locals := 345 }) (vk_P D cy e0 mi [.ref vo, .int a0, .ref oa] sz (wJ (uOut cy oa f) Ww)) (vg_Qi (S := Unit) D sz (wJ (uOut cy oa f) Ww) (fun r _ => r = 2) (fun _ => wJ (uOut cy oa f) Ww)) 12 12351 (va_A (wJ (uOut cy oa f) Ww) sz) := by
  refine vw_ofWH (cc := cL_delete) (maxL := 4) (ret := some .int) (hh := [(0, 9, 12, 13), (0, 9, 15, 15)]) (by decide) rfl ?_
  intro p e s m args below meth c s₁ BB hml hv
  obtain ⟨⟨rfl, hsz, hP, hE, hD0, hF, hZ⟩, hN⟩ := hv
  have hx := BB.exec
  have hb := BB.bytes
  have hr := BB.returns
  have hts := atoms_spec (ws := wsL_delete) BB.pre
  have hown : s.vm.findClass RL = some m.cls := findClass_of_methodNamed BB.named
  have hlocks := BB.notSynchronized
  subst hsz
  have hD := hD0.self (sz := s.heap.size)
  have hA : ∀ q : Nat, s.heap.size ≤ q → (va_A (wJ (uOut cy oa f) Ww) s.heap.size) q := fun q h => Or.inr h
  have hS : va_S (va_A (wJ (uOut cy oa f) Ww) s.heap.size) s.heap s.heap [] := va_S.rf
  obtain ⟨A0, hA0⟩ : ∃ A0 : Nat → Prop, A0 = va_A (wJ (uOut cy oa f) Ww) s.heap.size := ⟨_, rfl⟩
  rw [← hA0]
  rw [← hA0] at hD hA hS hZ
  have hl := lv_entry ([.ref vo, .int a0, .ref oa]) (n := 4) (Nat.le_of_ble_eq_true rfl)
  rw [lg_entry_eq]
  generalize (lg_sl ([.ref vo, .int a0, .ref oa]) ++ List.replicate (4 - (lg_sl ([.ref vo, .int a0, .ref oa])).length) Slot.unset).toArray = ls at hl ⊢
  have hl : lv_has ls 4 [(0, .ref vo), (1, .int a0), (2, .ref oa)] := hl
  refine lv_aload_n hx hb dL_delete_0 rfl (lv_at hl 2 rfl) ?_
  refine lv_iconst (v := 0) hx hb dL_delete_1 (by decide) ?_
  refine vg_tp (nI 0) rfl ?_
  refine lv_aload_n hx hb dL_delete_2 rfl (lv_at hl 0 rfl) ?_
  refine lv_iload_n hx hb dL_delete_3 rfl (lv_at hl 1 rfl) ?_
  have hp9 : (wJ (uOut cy oa f) Ww : va_W).Perm (wJ Wc (wJ (uOut cy oa f) Wr)) := ((List.Perm.append_left (uOut cy oa f) hpw).trans (vp_pc (fun n9 hn9 h90 => by simp only [wJ, hn9, h90, Nat.add_zero, Nat.zero_add] <;> ac_rfl)))
  have hP8 := vp_perm hP hp9
  have hD8 := vd_perm hp9 hD
  have hF8 := vj_free hD8 hS hA
  have hDc : va_D (va_A Wc s.heap.size) Wc := ((vd_app.mp hD8).1.weaken (fun _ _ _ _ => trivial) : va_D (fun _ => True) Wc).self (sz := s.heap.size)
  refine vx_callv (vx_runV (As := [.int a0]) (rest := [.int (nI 0), .ref oa]) ⟨hx, hb, hml, hown, hts⟩ (hM s.heap.size) (cwV 1 hts gL_delete_X4_delete rfl hrm.1 hrm.2.1 (by decide +kernel) ⟨by show rm.frames + 1 ≤ 13; omega, by show 8 + (3 + 11) + rm.locals ≤ 345; omega⟩) (vh_P.preV hE hF hZ hS (vj_free (vd_perm hp9 hD) hS hA) hP (k0 + 1) (by rw [wJ, uOut, List.singleton_append, List.getElem?_cons_succ]; exact hk0) rfl (vp_app.mp (vp_perm hP hp9)).1 (vd_app.mp (vd_perm hp9 hD)).1) rfl rfl hl.1 rfl (lv_room (Nat.le_of_ble_eq_true rfl)) dL_delete_4 ⟨by show 0 + mc ≤ 12; omega, by show 0 + ms ≤ 12351; omega⟩) hS (fun q _ h => hF8 q h) hF8 (fun q _ h => hF8 q h) (fun E9 ce q9 u t H1 locs1 ht1 hvm _ hB hz hk hS1 hce hcv hcl => ?_) (fun u t H1 locs1 _ _ hpost => hpost.elim)
  obtain ⟨rfl, hP1⟩ := hB
  rw [ht1] at hP1
  obtain ⟨a81, a82⟩ := vj_join hP8 hD8 hk hF8 hP1 hDc
  have hP : va_P D vwCl (wJ (uOut cy oa f) Ww) H1 := vp_perm a81 hp9.symm
  have hD : va_D A0 (wJ (uOut cy oa f) Ww) := vd_perm hp9.symm a82
  have htab : c.exceptionTable.toList = tableOf [(0, 9, 12, 13), (0, 9, 15, 15)] := vx_table (x := yL_delete) BB (hts _ List.mem_cons_self)
  refine vx_catch (own := RL) (name := "java/lang/IllegalStateException") hown (tableOf [(0, 9, 12, 13)]) ⟨0, 9, 15, 15⟩ (tableOf []) (by rw [htab]; rfl) ?_ (by decide) (by decide) (hts (.classLink RL 15 "java/lang/IllegalStateException") (by decide +kernel)) (va_Nw.use rfl (hF.2.2.2.2.2 (.castable "java/lang/IllegalStateException" "java/lang/IllegalStateException") (by decide +kernel))) hce hcv hcl ?_
  · intro z hz
    simp only [tableOf, List.map_cons, List.map_nil, List.mem_cons, List.not_mem_nil, or_false] at hz
    rcases hz with rfl
    · exact Or.inr ⟨by decide, "java/lang/IndexOutOfBoundsException", hts (.classLink RL 13 "java/lang/IndexOutOfBoundsException") (by decide +kernel), hN.2.1⟩
  refine lv_astore_n (lv' := [(3, .ref q9), (0, .ref vo), (1, .int a0), (2, .ref oa)]) hx hb dL_delete_15 rfl hl (by decide) rfl (fun ls hl => ?_)
  refine lv_iconst (v := 2) hx hb dL_delete_16 (by decide) ?_
  subst hA0
  refine W.widen (k := 12) (n := 12351) (by omega) (by omega) ?_
  exact W.iret (v := 2) hx hb hr (fun t ht hW => ⟨⟨2, (), rfl, rfl, (by rw [ht]; exact hP), hD⟩, hS1.F ht⟩) hS1.2.2 dL_delete_17

set_option maxHeartbeats 4000000 in
set_option maxRecDepth 100000 in
theorem kL_boost_ok {S : Type} (l : Launch) (D : va_G) (cy : Nat → ClassId) (sz e0 mi : Nat) (vo : Nat) (a0 : Int32) (a1 : Int32)  (Ww Wc Wr : va_W) (k0 : Nat) (fs : List Value) (hk0 : Ww[k0]? = some (vo, .inr (5, fs))) (hpw : Ww.Perm (wJ Wc Wr)) (W1 : S → va_W) (post : S → Prop) {rm : Room} {mc ms : Nat} (hrm : rm.cells = mc ∧ rm.slots = ms ∧ rm.frames ≤ 12 ∧ rm.locals ≤ 314 ∧ mc ≤ 12 ∧ ms ≤ 12351) (hM : ∀ sz : Nat, Met l yX4_boost wsX4_boost rm (vh_P D cy e0 mi [.ref vo, .int a0, .int a1] sz Wc) (vg_Qv (S := S) D sz Wc post W1) mc ms (va_A Wc sz)) : Met l yL_boost wsL_boost ({ frames := 13, cells := 12, slots := 12351, locals := 345 }) (vk_P D cy e0 mi [.ref vo, .int a0, .int a1] sz (Ww)) (vg_Qi (S := S) D sz (Ww) (fun r u => r = 0 ∧ post u) (fun u => wJ (W1 u) Wr)) 12 12351 (va_A (Ww) sz) := by
  refine vw_ofWH (cc := cL_boost) (maxL := 4) (ret := some .int) (hh := [(0, 6, 9, 13), (0, 6, 12, 15)]) (by decide) rfl ?_
  intro p e s m args below meth c s₁ BB hml hv
  obtain ⟨⟨rfl, hsz, hP, hE, hD0, hF, hZ⟩, hN⟩ := hv
  have hx := BB.exec
  have hb := BB.bytes
  have hr := BB.returns
  have hts := atoms_spec (ws := wsL_boost) BB.pre
  have hown : s.vm.findClass RL = some m.cls := findClass_of_methodNamed BB.named
  have hlocks := BB.notSynchronized
  subst hsz
  have hD := hD0.self (sz := s.heap.size)
  have hA : ∀ q : Nat, s.heap.size ≤ q → (va_A (Ww) s.heap.size) q := fun q h => Or.inr h
  have hS : va_S (va_A (Ww) s.heap.size) s.heap s.heap [] := va_S.rf
  obtain ⟨A0, hA0⟩ : ∃ A0 : Nat → Prop, A0 = va_A (Ww) s.heap.size := ⟨_, rfl⟩
  rw [← hA0]
  rw [← hA0] at hD hA hS hZ
  have hl := lv_entry ([.ref vo, .int a0, .int a1]) (n := 4) (Nat.le_of_ble_eq_true rfl)
  rw [lg_entry_eq]
  generalize (lg_sl ([.ref vo, .int a0, .int a1]) ++ List.replicate (4 - (lg_sl ([.ref vo, .int a0, .int a1])).length) Slot.unset).toArray = ls at hl ⊢
  have hl : lv_has ls 4 [(0, .ref vo), (1, .int a0), (2, .int a1)] := hl
  refine lv_aload_n hx hb dL_boost_0 rfl (lv_at hl 0 rfl) ?_
  refine lv_iload_n hx hb dL_boost_1 rfl (lv_at hl 1 rfl) ?_
  refine lv_iload_n hx hb dL_boost_2 rfl (lv_at hl 2 rfl) ?_
  refine vj_callv (va_runV (As := [.int a0, .int a1]) (rest := []) ⟨hx, hb, hml, hown, hts⟩ (hM s.heap.size) (cwV 2 hts gL_boost_X4_boost rfl hrm.1 hrm.2.1 (by decide +kernel) ⟨by show rm.frames + 1 ≤ 13; omega, by show 8 + (6 + 11) + rm.locals ≤ 345; omega⟩) (vh_P.preV hE hF hZ hS (vj_free (vd_perm hpw hD) hS hA) hP k0 hk0 rfl (vp_app.mp (vp_perm hP hpw)).1 (vd_app.mp (vd_perm hpw hD)).1) rfl rfl hl.1 rfl (lv_room (Nat.le_of_ble_eq_true rfl)) dL_boost_3 ⟨by show 0 + mc ≤ 12; omega, by show 0 + ms ≤ 12351; omega⟩) hP hD hS hA hpw (fun u H locs hu hP hD hS => ?_)
  refine lv_goto (tgt := 15) hx hb dL_boost_6 (by decide) ?_
  refine lv_iconst (v := 0) hx hb dL_boost_15 (by decide) ?_
  subst hA0
  refine W.widen (k := 12) (n := 12351) (by omega) (by omega) ?_
  exact W.iret (v := 0) hx hb hr (fun t ht hW => ⟨⟨0, u, rfl, ⟨rfl, hu⟩, (by rw [ht]; exact hP), hD⟩, hS.F ht⟩) hS.2.2 dL_boost_16

set_option maxHeartbeats 4000000 in
set_option maxRecDepth 100000 in
theorem kL_boost_O (l : Launch) (D : va_G) (cy : Nat → ClassId) (sz e0 mi : Nat) (vo : Nat) (a0 : Int32) (a1 : Int32)  (Ww Wc Wr : va_W) (k0 : Nat) (fs : List Value) (hk0 : Ww[k0]? = some (vo, .inr (5, fs))) (hpw : Ww.Perm (wJ Wc Wr)) {rm : Room} {mc ms : Nat} (hrm : rm.cells = mc ∧ rm.slots = ms ∧ rm.frames ≤ 12 ∧ rm.locals ≤ 314 ∧ mc ≤ 12 ∧ ms ≤ 12351) (hM : ∀ sz : Nat, vx_Met l yX4_boost wsX4_boost rm (vh_P D cy e0 mi [.ref vo, .int a0, .int a1] sz Wc) (vh_N Wc sz) (vh_X D "java/lang/IndexOutOfBoundsException" Wc sz) mc ms (va_A Wc sz)) : Met l yL_boost wsL_boost ({ frames := 13, cells := 12, slots := 12351, locals := 345 }) (vk_P D cy e0 mi [.ref vo, .int a0, .int a1] sz (Ww)) (vg_Qi (S := Unit) D sz (Ww) (fun r _ => r = 1) (fun _ => Ww)) 12 12351 (va_A (Ww) sz) := by
  refine vw_ofWH (cc := cL_boost) (maxL := 4) (ret := some .int) (hh := [(0, 6, 9, 13), (0, 6, 12, 15)]) (by decide) rfl ?_
  intro p e s m args below meth c s₁ BB hml hv
  obtain ⟨⟨rfl, hsz, hP, hE, hD0, hF, hZ⟩, hN⟩ := hv
  have hx := BB.exec
  have hb := BB.bytes
  have hr := BB.returns
  have hts := atoms_spec (ws := wsL_boost) BB.pre
  have hown : s.vm.findClass RL = some m.cls := findClass_of_methodNamed BB.named
  have hlocks := BB.notSynchronized
  subst hsz
  have hD := hD0.self (sz := s.heap.size)
  have hA : ∀ q : Nat, s.heap.size ≤ q → (va_A (Ww) s.heap.size) q := fun q h => Or.inr h
  have hS : va_S (va_A (Ww) s.heap.size) s.heap s.heap [] := va_S.rf
  obtain ⟨A0, hA0⟩ : ∃ A0 : Nat → Prop, A0 = va_A (Ww) s.heap.size := ⟨_, rfl⟩
  rw [← hA0]
  rw [← hA0] at hD hA hS hZ
  have hl := lv_entry ([.ref vo, .int a0, .int a1]) (n := 4) (Nat.le_of_ble_eq_true rfl)
  rw [lg_entry_eq]
  generalize (lg_sl ([.ref vo, .int a0, .int a1]) ++ List.replicate (4 - (lg_sl ([.ref vo, .int a0, .int a1])).length) Slot.unset).toArray = ls at hl ⊢
  have hl : lv_has ls 4 [(0, .ref vo), (1, .int a0), (2, .int a1)] := hl
  refine lv_aload_n hx hb dL_boost_0 rfl (lv_at hl 0 rfl) ?_
  refine lv_iload_n hx hb dL_boost_1 rfl (lv_at hl 1 rfl) ?_
  refine lv_iload_n hx hb dL_boost_2 rfl (lv_at hl 2 rfl) ?_
  have hP8 := vp_perm hP hpw
  have hD8 := vd_perm hpw hD
  have hF8 := vj_free hD8 hS hA
  have hDc : va_D (va_A Wc s.heap.size) Wc := ((vd_app.mp hD8).1.weaken (fun _ _ _ _ => trivial) : va_D (fun _ => True) Wc).self (sz := s.heap.size)
  refine vx_callv (vx_runV (As := [.int a0, .int a1]) (rest := []) ⟨hx, hb, hml, hown, hts⟩ (hM s.heap.size) (cwV 2 hts gL_boost_X4_boost rfl hrm.1 hrm.2.1 (by decide +kernel) ⟨by show rm.frames + 1 ≤ 13; omega, by show 8 + (6 + 11) + rm.locals ≤ 345; omega⟩) (vh_P.preV hE hF hZ hS (vj_free (vd_perm hpw hD) hS hA) hP k0 hk0 rfl (vp_app.mp (vp_perm hP hpw)).1 (vd_app.mp (vd_perm hpw hD)).1) rfl rfl hl.1 rfl (lv_room (Nat.le_of_ble_eq_true rfl)) dL_boost_3 ⟨by show 0 + mc ≤ 12; omega, by show 0 + ms ≤ 12351; omega⟩) hS (fun q _ h => hF8 q h) hF8 (fun q _ h => hF8 q h) (fun E9 ce q9 u t H1 locs1 ht1 hvm _ hB hz hk hS1 hce hcv hcl => ?_) (fun u t H1 locs1 _ _ hpost => hpost.elim)
  obtain ⟨rfl, hP1⟩ := hB
  rw [ht1] at hP1
  obtain ⟨a81, a82⟩ := vj_join hP8 hD8 hk hF8 hP1 hDc
  have hP : va_P D vwCl (Ww) H1 := vp_perm a81 hpw.symm
  have hD : va_D A0 (Ww) := vd_perm hpw.symm a82
  have htab : c.exceptionTable.toList = tableOf [(0, 6, 9, 13), (0, 6, 12, 15)] := vx_table (x := yL_boost) BB (hts _ List.mem_cons_self)
  refine vx_catch (own := RL) (name := "java/lang/IndexOutOfBoundsException") hown (tableOf []) ⟨0, 6, 9, 13⟩ (tableOf [(0, 6, 12, 15)]) (by rw [htab]; rfl) (fun z hz => nomatch hz) (by decide) (by decide) (hts (.classLink RL 13 "java/lang/IndexOutOfBoundsException") (by decide +kernel)) (va_Nw.use rfl (hF.2.2.2.2.2 (.castable "java/lang/IndexOutOfBoundsException" "java/lang/IndexOutOfBoundsException") (by decide +kernel))) hce hcv hcl ?_
  refine lv_astore_n (lv' := [(3, .ref q9), (0, .ref vo), (1, .int a0), (2, .int a1)]) hx hb dL_boost_9 rfl hl (by decide) rfl (fun ls hl => ?_)
  refine lv_iconst (v := 1) hx hb dL_boost_10 (by decide) ?_
  subst hA0
  refine W.widen (k := 12) (n := 12351) (by omega) (by omega) ?_
  exact W.iret (v := 1) hx hb hr (fun t ht hW => ⟨⟨1, (), rfl, rfl, (by rw [ht]; exact hP), hD⟩, hS1.F ht⟩) hS1.2.2 dL_boost_11

set_option maxHeartbeats 4000000 in
set_option maxRecDepth 100000 in
theorem kL_boost_S (l : Launch) (D : va_G) (cy : Nat → ClassId) (sz e0 mi : Nat) (vo : Nat) (a0 : Int32) (a1 : Int32)  (Ww Wc Wr : va_W) (k0 : Nat) (fs : List Value) (hk0 : Ww[k0]? = some (vo, .inr (5, fs))) (hpw : Ww.Perm (wJ Wc Wr)) {rm : Room} {mc ms : Nat} (hrm : rm.cells = mc ∧ rm.slots = ms ∧ rm.frames ≤ 12 ∧ rm.locals ≤ 314 ∧ mc ≤ 12 ∧ ms ≤ 12351) (hM : ∀ sz : Nat, vx_Met l yX4_boost wsX4_boost rm (vh_P D cy e0 mi [.ref vo, .int a0, .int a1] sz Wc) (vh_N Wc sz) (vh_X D "java/lang/IllegalStateException" Wc sz) mc ms (va_A Wc sz)) : Met l yL_boost wsL_boost ({ frames := 13, cells := 12, slots := 12351, locals := 345 }) (vk_P D cy e0 mi [.ref vo, .int a0, .int a1] sz (Ww)) (vg_Qi (S := Unit) D sz (Ww) (fun r _ => r = 2) (fun _ => Ww)) 12 12351 (va_A (Ww) sz) := by
  refine vw_ofWH (cc := cL_boost) (maxL := 4) (ret := some .int) (hh := [(0, 6, 9, 13), (0, 6, 12, 15)]) (by decide) rfl ?_
  intro p e s m args below meth c s₁ BB hml hv
  obtain ⟨⟨rfl, hsz, hP, hE, hD0, hF, hZ⟩, hN⟩ := hv
  have hx := BB.exec
  have hb := BB.bytes
  have hr := BB.returns
  have hts := atoms_spec (ws := wsL_boost) BB.pre
  have hown : s.vm.findClass RL = some m.cls := findClass_of_methodNamed BB.named
  have hlocks := BB.notSynchronized
  subst hsz
  have hD := hD0.self (sz := s.heap.size)
  have hA : ∀ q : Nat, s.heap.size ≤ q → (va_A (Ww) s.heap.size) q := fun q h => Or.inr h
  have hS : va_S (va_A (Ww) s.heap.size) s.heap s.heap [] := va_S.rf
  obtain ⟨A0, hA0⟩ : ∃ A0 : Nat → Prop, A0 = va_A (Ww) s.heap.size := ⟨_, rfl⟩
  rw [← hA0]
  rw [← hA0] at hD hA hS hZ
  have hl := lv_entry ([.ref vo, .int a0, .int a1]) (n := 4) (Nat.le_of_ble_eq_true rfl)
  rw [lg_entry_eq]
  generalize (lg_sl ([.ref vo, .int a0, .int a1]) ++ List.replicate (4 - (lg_sl ([.ref vo, .int a0, .int a1])).length) Slot.unset).toArray = ls at hl ⊢
  have hl : lv_has ls 4 [(0, .ref vo), (1, .int a0), (2, .int a1)] := hl
  refine lv_aload_n hx hb dL_boost_0 rfl (lv_at hl 0 rfl) ?_
  refine lv_iload_n hx hb dL_boost_1 rfl (lv_at hl 1 rfl) ?_
  refine lv_iload_n hx hb dL_boost_2 rfl (lv_at hl 2 rfl) ?_
  have hP8 := vp_perm hP hpw
  have hD8 := vd_perm hpw hD
  have hF8 := vj_free hD8 hS hA
  have hDc : va_D (va_A Wc s.heap.size) Wc := ((vd_app.mp hD8).1.weaken (fun _ _ _ _ => trivial) : va_D (fun _ => True) Wc).self (sz := s.heap.size)
  refine vx_callv (vx_runV (As := [.int a0, .int a1]) (rest := []) ⟨hx, hb, hml, hown, hts⟩ (hM s.heap.size) (cwV 2 hts gL_boost_X4_boost rfl hrm.1 hrm.2.1 (by decide +kernel) ⟨by show rm.frames + 1 ≤ 13; omega, by show 8 + (6 + 11) + rm.locals ≤ 345; omega⟩) (vh_P.preV hE hF hZ hS (vj_free (vd_perm hpw hD) hS hA) hP k0 hk0 rfl (vp_app.mp (vp_perm hP hpw)).1 (vd_app.mp (vd_perm hpw hD)).1) rfl rfl hl.1 rfl (lv_room (Nat.le_of_ble_eq_true rfl)) dL_boost_3 ⟨by show 0 + mc ≤ 12; omega, by show 0 + ms ≤ 12351; omega⟩) hS (fun q _ h => hF8 q h) hF8 (fun q _ h => hF8 q h) (fun E9 ce q9 u t H1 locs1 ht1 hvm _ hB hz hk hS1 hce hcv hcl => ?_) (fun u t H1 locs1 _ _ hpost => hpost.elim)
  obtain ⟨rfl, hP1⟩ := hB
  rw [ht1] at hP1
  obtain ⟨a81, a82⟩ := vj_join hP8 hD8 hk hF8 hP1 hDc
  have hP : va_P D vwCl (Ww) H1 := vp_perm a81 hpw.symm
  have hD : va_D A0 (Ww) := vd_perm hpw.symm a82
  have htab : c.exceptionTable.toList = tableOf [(0, 6, 9, 13), (0, 6, 12, 15)] := vx_table (x := yL_boost) BB (hts _ List.mem_cons_self)
  refine vx_catch (own := RL) (name := "java/lang/IllegalStateException") hown (tableOf [(0, 6, 9, 13)]) ⟨0, 6, 12, 15⟩ (tableOf []) (by rw [htab]; rfl) ?_ (by decide) (by decide) (hts (.classLink RL 15 "java/lang/IllegalStateException") (by decide +kernel)) (va_Nw.use rfl (hF.2.2.2.2.2 (.castable "java/lang/IllegalStateException" "java/lang/IllegalStateException") (by decide +kernel))) hce hcv hcl ?_
  · intro z hz
    simp only [tableOf, List.map_cons, List.map_nil, List.mem_cons, List.not_mem_nil, or_false] at hz
    rcases hz with rfl
    · exact Or.inr ⟨by decide, "java/lang/IndexOutOfBoundsException", hts (.classLink RL 13 "java/lang/IndexOutOfBoundsException") (by decide +kernel), hN.2.1⟩
  refine lv_astore_n (lv' := [(3, .ref q9), (0, .ref vo), (1, .int a0), (2, .int a1)]) hx hb dL_boost_12 rfl hl (by decide) rfl (fun ls hl => ?_)
  refine lv_iconst (v := 2) hx hb dL_boost_13 (by decide) ?_
  subst hA0
  refine W.widen (k := 12) (n := 12351) (by omega) (by omega) ?_
  exact W.iret (v := 2) hx hb hr (fun t ht hW => ⟨⟨2, (), rfl, rfl, (by rw [ht]; exact hP), hD⟩, hS1.F ht⟩) hS1.2.2 dL_boost_14

set_option maxHeartbeats 4000000 in
set_option maxRecDepth 100000 in
theorem kL_deliver_ok {S : Type} (l : Launch) (D : va_G) (cy : Nat → ClassId) (sz e0 mi : Nat) (vo : Nat) (a0 : Int32) (oa : Nat) (f : Nat → Int64) (Ww Wc Wr : va_W) (k0 : Nat) (fs : List Value) (hk0 : Ww[k0]? = some (vo, .inr (5, fs))) (hpw : Ww.Perm (wJ Wc Wr)) (W1 : S → va_W) (post : Int32 → S → Prop) {rm : Room} {mc ms : Nat} (hrm : rm.cells = mc ∧ rm.slots = ms ∧ rm.frames ≤ 12 ∧ rm.locals ≤ 314 ∧ mc ≤ 12 ∧ ms ≤ 12351) (hM : ∀ sz : Nat, Met l yX4_deliver wsX4_deliver rm (vh_P D cy e0 mi [.ref vo, .int a0] sz Wc) (vg_Qi (S := S) D sz Wc post W1) mc ms (va_A Wc sz)) : Met l yL_deliver wsL_deliver ({ frames := 13, cells := 12, slots := 12351, locals := 345 }) (vk_P D cy e0 mi [.ref vo, .int a0, .ref oa] sz (wJ (uOut cy oa f) Ww)) (vg_Qi (S := Int32 × S) D sz (wJ (uOut cy oa f) Ww) (fun r u => r = 0 ∧ post u.1 u.2) (fun u => wJ (uOut cy oa (vp_updL f 0 u.1.toInt64)) (wJ (W1 u.2) Wr))) 12 12351 (va_A (wJ (uOut cy oa f) Ww) sz) := by
  refine vw_ofWH (cc := cL_deliver) (maxL := 4) (ret := some .int) (hh := [(0, 9, 12, 13)]) (by decide) rfl ?_
  intro p e s m args below meth c s₁ BB hml hv
  obtain ⟨⟨rfl, hsz, hP, hE, hD0, hF, hZ⟩, hN⟩ := hv
  have hx := BB.exec
  have hb := BB.bytes
  have hr := BB.returns
  have hts := atoms_spec (ws := wsL_deliver) BB.pre
  have hown : s.vm.findClass RL = some m.cls := findClass_of_methodNamed BB.named
  have hlocks := BB.notSynchronized
  subst hsz
  have hD := hD0.self (sz := s.heap.size)
  have hA : ∀ q : Nat, s.heap.size ≤ q → (va_A (wJ (uOut cy oa f) Ww) s.heap.size) q := fun q h => Or.inr h
  have hS : va_S (va_A (wJ (uOut cy oa f) Ww) s.heap.size) s.heap s.heap [] := va_S.rf
  obtain ⟨A0, hA0⟩ : ∃ A0 : Nat → Prop, A0 = va_A (wJ (uOut cy oa f) Ww) s.heap.size := ⟨_, rfl⟩
  rw [← hA0]
  rw [← hA0] at hD hA hS hZ
  have hl := lv_entry ([.ref vo, .int a0, .ref oa]) (n := 4) (Nat.le_of_ble_eq_true rfl)
  rw [lg_entry_eq]
  generalize (lg_sl ([.ref vo, .int a0, .ref oa]) ++ List.replicate (4 - (lg_sl ([.ref vo, .int a0, .ref oa])).length) Slot.unset).toArray = ls at hl ⊢
  have hl : lv_has ls 4 [(0, .ref vo), (1, .int a0), (2, .ref oa)] := hl
  refine lv_aload_n hx hb dL_deliver_0 rfl (lv_at hl 2 rfl) ?_
  refine lv_iconst (v := 0) hx hb dL_deliver_1 (by decide) ?_
  refine vg_tp (nI 0) rfl ?_
  refine lv_aload_n hx hb dL_deliver_2 rfl (lv_at hl 0 rfl) ?_
  refine lv_iload_n hx hb dL_deliver_3 rfl (lv_at hl 1 rfl) ?_
  have hp9 : (wJ (uOut cy oa f) Ww : va_W).Perm (wJ Wc (wJ (uOut cy oa f) Wr)) := ((List.Perm.append_left (uOut cy oa f) hpw).trans (vp_pc (fun n9 hn9 h90 => by simp only [wJ, hn9, h90, Nat.add_zero, Nat.zero_add] <;> ac_rfl)))
  refine vj_calli (va_runV (As := [.int a0]) (rest := [.int (nI 0), .ref oa]) ⟨hx, hb, hml, hown, hts⟩ (hM s.heap.size) (cwV 1 hts gL_deliver_X4_deliver rfl hrm.1 hrm.2.1 (by decide +kernel) ⟨by show rm.frames + 1 ≤ 13; omega, by show 8 + (4 + 11) + rm.locals ≤ 345; omega⟩) (vh_P.preV hE hF hZ hS (vj_free (vd_perm hp9 hD) hS hA) hP (k0 + 1) (by rw [wJ, uOut, List.singleton_append, List.getElem?_cons_succ]; exact hk0) rfl (vp_app.mp (vp_perm hP hp9)).1 (vd_app.mp (vd_perm hp9 hD)).1) rfl rfl hl.1 rfl (lv_room (Nat.le_of_ble_eq_true rfl)) dL_deliver_4 ⟨by show 0 + mc ≤ 12; omega, by show 0 + ms ≤ 12351; omega⟩) hP hD hS hA hp9 (fun r u H locs hu hP hD hS => ?_)
  have hp7 : (wJ (W1 u) (wJ (uOut cy oa f) Wr) : va_W).Perm (wJ (uOut cy oa f) (wJ (W1 u) Wr)) := (vp_pc (fun n9 hn9 h90 => by simp only [wJ, hn9, h90, Nat.add_zero, Nat.zero_add] <;> ac_rfl))
  have hP : va_P D vwCl (wJ (uOut cy oa f) (wJ (W1 u) Wr)) H := vp_perm hP hp7
  have hD : va_D A0 (wJ (uOut cy oa f) (wJ (W1 u) Wr)) := vd_perm hp7 hD
  refine lv_i2l (v := r.toInt64) hx hb dL_deliver_7 rfl ?_
  refine vg_last hx hb hE.1 hP hD hS 0 1 rfl rfl (f := f) (j := 0) (by decide) (by decide) dL_deliver_8 (fun H locs hP hD hS => ?_)
  have hP : va_P D vwCl (wJ (uOut cy oa (vp_updL f 0 r.toInt64)) (wJ (W1 u) Wr)) H := hP
  have hD : va_D A0 (wJ (uOut cy oa (vp_updL f 0 r.toInt64)) (wJ (W1 u) Wr)) := hD
  refine lv_goto (tgt := 15) hx hb dL_deliver_9 (by decide) ?_
  refine lv_iconst (v := 0) hx hb dL_deliver_15 (by decide) ?_
  subst hA0
  refine W.widen (k := 12) (n := 12351) (by omega) (by omega) ?_
  exact W.iret (v := 0) hx hb hr (fun t ht hW => ⟨⟨0, (r, u), rfl, ⟨rfl, hu⟩, (by rw [ht]; exact hP), hD⟩, hS.F ht⟩) hS.2.2 dL_deliver_16

set_option maxHeartbeats 4000000 in
set_option maxRecDepth 100000 in
theorem kL_deliver_O (l : Launch) (D : va_G) (cy : Nat → ClassId) (sz e0 mi : Nat) (vo : Nat) (a0 : Int32) (oa : Nat) (f : Nat → Int64) (Ww Wc Wr : va_W) (k0 : Nat) (fs : List Value) (hk0 : Ww[k0]? = some (vo, .inr (5, fs))) (hpw : Ww.Perm (wJ Wc Wr)) {rm : Room} {mc ms : Nat} (hrm : rm.cells = mc ∧ rm.slots = ms ∧ rm.frames ≤ 12 ∧ rm.locals ≤ 314 ∧ mc ≤ 12 ∧ ms ≤ 12351) (hM : ∀ sz : Nat, vx_Met l yX4_deliver wsX4_deliver rm (vh_P D cy e0 mi [.ref vo, .int a0] sz Wc) (vh_N Wc sz) (vh_X D "java/lang/IndexOutOfBoundsException" Wc sz) mc ms (va_A Wc sz)) : Met l yL_deliver wsL_deliver ({ frames := 13, cells := 12, slots := 12351, locals := 345 }) (vk_P D cy e0 mi [.ref vo, .int a0, .ref oa] sz (wJ (uOut cy oa f) Ww)) (vg_Qi (S := Unit) D sz (wJ (uOut cy oa f) Ww) (fun r _ => r = 1) (fun _ => wJ (uOut cy oa f) Ww)) 12 12351 (va_A (wJ (uOut cy oa f) Ww) sz) := by
  refine vw_ofWH (cc := cL_deliver) (maxL := 4) (ret := some .int) (hh := [(0, 9, 12, 13)]) (by decide) rfl ?_
  intro p e s m args below meth c s₁ BB hml hv
  obtain ⟨⟨rfl, hsz, hP, hE, hD0, hF, hZ⟩, hN⟩ := hv
  have hx := BB.exec
  have hb := BB.bytes
  have hr := BB.returns
  have hts := atoms_spec (ws := wsL_deliver) BB.pre
  have hown : s.vm.findClass RL = some m.cls := findClass_of_methodNamed BB.named
  have hlocks := BB.notSynchronized
  subst hsz
  have hD := hD0.self (sz := s.heap.size)
  have hA : ∀ q : Nat, s.heap.size ≤ q → (va_A (wJ (uOut cy oa f) Ww) s.heap.size) q := fun q h => Or.inr h
  have hS : va_S (va_A (wJ (uOut cy oa f) Ww) s.heap.size) s.heap s.heap [] := va_S.rf
  obtain ⟨A0, hA0⟩ : ∃ A0 : Nat → Prop, A0 = va_A (wJ (uOut cy oa f) Ww) s.heap.size := ⟨_, rfl⟩
  rw [← hA0]
  rw [← hA0] at hD hA hS hZ
  have hl := lv_entry ([.ref vo, .int a0, .ref oa]) (n := 4) (Nat.le_of_ble_eq_true rfl)
  rw [lg_entry_eq]
  generalize (lg_sl ([.ref vo, .int a0, .ref oa]) ++ List.replicate (4 - (lg_sl ([.ref vo, .int a0, .ref oa])).length) Slot.unset).toArray = ls at hl ⊢
  have hl : lv_has ls 4 [(0, .ref vo), (1, .int a0), (2, .ref oa)] := hl
  refine lv_aload_n hx hb dL_deliver_0 rfl (lv_at hl 2 rfl) ?_
  refine lv_iconst (v := 0) hx hb dL_deliver_1 (by decide) ?_
  refine vg_tp (nI 0) rfl ?_
  refine lv_aload_n hx hb dL_deliver_2 rfl (lv_at hl 0 rfl) ?_
  refine lv_iload_n hx hb dL_deliver_3 rfl (lv_at hl 1 rfl) ?_
  have hp9 : (wJ (uOut cy oa f) Ww : va_W).Perm (wJ Wc (wJ (uOut cy oa f) Wr)) := ((List.Perm.append_left (uOut cy oa f) hpw).trans (vp_pc (fun n9 hn9 h90 => by simp only [wJ, hn9, h90, Nat.add_zero, Nat.zero_add] <;> ac_rfl)))
  have hP8 := vp_perm hP hp9
  have hD8 := vd_perm hp9 hD
  have hF8 := vj_free hD8 hS hA
  have hDc : va_D (va_A Wc s.heap.size) Wc := ((vd_app.mp hD8).1.weaken (fun _ _ _ _ => trivial) : va_D (fun _ => True) Wc).self (sz := s.heap.size)
  refine vx_callv (vx_runV (As := [.int a0]) (rest := [.int (nI 0), .ref oa]) ⟨hx, hb, hml, hown, hts⟩ (hM s.heap.size) (cwV 1 hts gL_deliver_X4_deliver rfl hrm.1 hrm.2.1 (by decide +kernel) ⟨by show rm.frames + 1 ≤ 13; omega, by show 8 + (4 + 11) + rm.locals ≤ 345; omega⟩) (vh_P.preV hE hF hZ hS (vj_free (vd_perm hp9 hD) hS hA) hP (k0 + 1) (by rw [wJ, uOut, List.singleton_append, List.getElem?_cons_succ]; exact hk0) rfl (vp_app.mp (vp_perm hP hp9)).1 (vd_app.mp (vd_perm hp9 hD)).1) rfl rfl hl.1 rfl (lv_room (Nat.le_of_ble_eq_true rfl)) dL_deliver_4 ⟨by show 0 + mc ≤ 12; omega, by show 0 + ms ≤ 12351; omega⟩) hS (fun q _ h => hF8 q h) hF8 (fun q _ h => hF8 q h) (fun E9 ce q9 u t H1 locs1 ht1 hvm _ hB hz hk hS1 hce hcv hcl => ?_) (fun u t H1 locs1 _ _ hpost => hpost.elim)
  obtain ⟨rfl, hP1⟩ := hB
  rw [ht1] at hP1
  obtain ⟨a81, a82⟩ := vj_join hP8 hD8 hk hF8 hP1 hDc
  have hP : va_P D vwCl (wJ (uOut cy oa f) Ww) H1 := vp_perm a81 hp9.symm
  have hD : va_D A0 (wJ (uOut cy oa f) Ww) := vd_perm hp9.symm a82
  have htab : c.exceptionTable.toList = tableOf [(0, 9, 12, 13)] := vx_table (x := yL_deliver) BB (hts _ List.mem_cons_self)
  refine vx_catch (own := RL) (name := "java/lang/IndexOutOfBoundsException") hown (tableOf []) ⟨0, 9, 12, 13⟩ (tableOf []) (by rw [htab]; rfl) (fun z hz => nomatch hz) (by decide) (by decide) (hts (.classLink RL 13 "java/lang/IndexOutOfBoundsException") (by decide +kernel)) (va_Nw.use rfl (hF.2.2.2.2.2 (.castable "java/lang/IndexOutOfBoundsException" "java/lang/IndexOutOfBoundsException") (by decide +kernel))) hce hcv hcl ?_
  refine lv_astore_n (lv' := [(3, .ref q9), (0, .ref vo), (1, .int a0), (2, .ref oa)]) hx hb dL_deliver_12 rfl hl (by decide) rfl (fun ls hl => ?_)
  refine lv_iconst (v := 1) hx hb dL_deliver_13 (by decide) ?_
  subst hA0
  refine W.widen (k := 12) (n := 12351) (by omega) (by omega) ?_
  exact W.iret (v := 1) hx hb hr (fun t ht hW => ⟨⟨1, (), rfl, rfl, (by rw [ht]; exact hP), hD⟩, hS1.F ht⟩) hS1.2.2 dL_deliver_14

set_option maxHeartbeats 4000000 in
set_option maxRecDepth 100000 in
theorem kL_repeat_ok {S : Type} (l : Launch) (D : va_G) (cy : Nat → ClassId) (sz e0 mi : Nat) (vo : Nat) (a0 : Int32) (oa : Nat) (f : Nat → Int64) (Ww Wc Wr : va_W) (k0 : Nat) (fs : List Value) (hk0 : Ww[k0]? = some (vo, .inr (5, fs))) (hpw : Ww.Perm (wJ Wc Wr)) (W1 : S → va_W) (post : Int32 → S → Prop) {rm : Room} {mc ms : Nat} (hrm : rm.cells = mc ∧ rm.slots = ms ∧ rm.frames ≤ 12 ∧ rm.locals ≤ 314 ∧ mc ≤ 12 ∧ ms ≤ 12351) (hM : ∀ sz : Nat, Met l yX4_repeat wsX4_repeat rm (vh_P D cy e0 mi [.ref vo, .int a0] sz Wc) (vg_Qi (S := S) D sz Wc post W1) mc ms (va_A Wc sz)) : Met l yL_repeat wsL_repeat ({ frames := 13, cells := 12, slots := 12351, locals := 345 }) (vk_P D cy e0 mi [.ref vo, .int a0, .ref oa] sz (wJ (uOut cy oa f) Ww)) (vg_Qi (S := Int32 × S) D sz (wJ (uOut cy oa f) Ww) (fun r u => r = 0 ∧ post u.1 u.2) (fun u => wJ (uOut cy oa (vp_updL f 0 u.1.toInt64)) (wJ (W1 u.2) Wr))) 12 12351 (va_A (wJ (uOut cy oa f) Ww) sz) := by
  refine vw_ofWH (cc := cL_repeat) (maxL := 4) (ret := some .int) (hh := [(0, 9, 12, 13)]) (by decide) rfl ?_
  intro p e s m args below meth c s₁ BB hml hv
  obtain ⟨⟨rfl, hsz, hP, hE, hD0, hF, hZ⟩, hN⟩ := hv
  have hx := BB.exec
  have hb := BB.bytes
  have hr := BB.returns
  have hts := atoms_spec (ws := wsL_repeat) BB.pre
  have hown : s.vm.findClass RL = some m.cls := findClass_of_methodNamed BB.named
  have hlocks := BB.notSynchronized
  subst hsz
  have hD := hD0.self (sz := s.heap.size)
  have hA : ∀ q : Nat, s.heap.size ≤ q → (va_A (wJ (uOut cy oa f) Ww) s.heap.size) q := fun q h => Or.inr h
  have hS : va_S (va_A (wJ (uOut cy oa f) Ww) s.heap.size) s.heap s.heap [] := va_S.rf
  obtain ⟨A0, hA0⟩ : ∃ A0 : Nat → Prop, A0 = va_A (wJ (uOut cy oa f) Ww) s.heap.size := ⟨_, rfl⟩
  rw [← hA0]
  rw [← hA0] at hD hA hS hZ
  have hl := lv_entry ([.ref vo, .int a0, .ref oa]) (n := 4) (Nat.le_of_ble_eq_true rfl)
  rw [lg_entry_eq]
  generalize (lg_sl ([.ref vo, .int a0, .ref oa]) ++ List.replicate (4 - (lg_sl ([.ref vo, .int a0, .ref oa])).length) Slot.unset).toArray = ls at hl ⊢
  have hl : lv_has ls 4 [(0, .ref vo), (1, .int a0), (2, .ref oa)] := hl
  refine lv_aload_n hx hb dL_repeat_0 rfl (lv_at hl 2 rfl) ?_
  refine lv_iconst (v := 0) hx hb dL_repeat_1 (by decide) ?_
  refine vg_tp (nI 0) rfl ?_
  refine lv_aload_n hx hb dL_repeat_2 rfl (lv_at hl 0 rfl) ?_
  refine lv_iload_n hx hb dL_repeat_3 rfl (lv_at hl 1 rfl) ?_
  have hp9 : (wJ (uOut cy oa f) Ww : va_W).Perm (wJ Wc (wJ (uOut cy oa f) Wr)) := ((List.Perm.append_left (uOut cy oa f) hpw).trans (vp_pc (fun n9 hn9 h90 => by simp only [wJ, hn9, h90, Nat.add_zero, Nat.zero_add] <;> ac_rfl)))
  refine vj_calli (va_runV (As := [.int a0]) (rest := [.int (nI 0), .ref oa]) ⟨hx, hb, hml, hown, hts⟩ (hM s.heap.size) (cwV 1 hts gL_repeat_X4_repeat rfl hrm.1 hrm.2.1 (by decide +kernel) ⟨by show rm.frames + 1 ≤ 13; omega, by show 8 + (4 + 11) + rm.locals ≤ 345; omega⟩) (vh_P.preV hE hF hZ hS (vj_free (vd_perm hp9 hD) hS hA) hP (k0 + 1) (by rw [wJ, uOut, List.singleton_append, List.getElem?_cons_succ]; exact hk0) rfl (vp_app.mp (vp_perm hP hp9)).1 (vd_app.mp (vd_perm hp9 hD)).1) rfl rfl hl.1 rfl (lv_room (Nat.le_of_ble_eq_true rfl)) dL_repeat_4 ⟨by show 0 + mc ≤ 12; omega, by show 0 + ms ≤ 12351; omega⟩) hP hD hS hA hp9 (fun r u H locs hu hP hD hS => ?_)
  have hp7 : (wJ (W1 u) (wJ (uOut cy oa f) Wr) : va_W).Perm (wJ (uOut cy oa f) (wJ (W1 u) Wr)) := (vp_pc (fun n9 hn9 h90 => by simp only [wJ, hn9, h90, Nat.add_zero, Nat.zero_add] <;> ac_rfl))
  have hP : va_P D vwCl (wJ (uOut cy oa f) (wJ (W1 u) Wr)) H := vp_perm hP hp7
  have hD : va_D A0 (wJ (uOut cy oa f) (wJ (W1 u) Wr)) := vd_perm hp7 hD
  refine lv_i2l (v := r.toInt64) hx hb dL_repeat_7 rfl ?_
  refine vg_last hx hb hE.1 hP hD hS 0 1 rfl rfl (f := f) (j := 0) (by decide) (by decide) dL_repeat_8 (fun H locs hP hD hS => ?_)
  have hP : va_P D vwCl (wJ (uOut cy oa (vp_updL f 0 r.toInt64)) (wJ (W1 u) Wr)) H := hP
  have hD : va_D A0 (wJ (uOut cy oa (vp_updL f 0 r.toInt64)) (wJ (W1 u) Wr)) := hD
  refine lv_goto (tgt := 15) hx hb dL_repeat_9 (by decide) ?_
  refine lv_iconst (v := 0) hx hb dL_repeat_15 (by decide) ?_
  subst hA0
  refine W.widen (k := 12) (n := 12351) (by omega) (by omega) ?_
  exact W.iret (v := 0) hx hb hr (fun t ht hW => ⟨⟨0, (r, u), rfl, ⟨rfl, hu⟩, (by rw [ht]; exact hP), hD⟩, hS.F ht⟩) hS.2.2 dL_repeat_16

set_option maxHeartbeats 4000000 in
set_option maxRecDepth 100000 in
theorem kL_repeat_O (l : Launch) (D : va_G) (cy : Nat → ClassId) (sz e0 mi : Nat) (vo : Nat) (a0 : Int32) (oa : Nat) (f : Nat → Int64) (Ww Wc Wr : va_W) (k0 : Nat) (fs : List Value) (hk0 : Ww[k0]? = some (vo, .inr (5, fs))) (hpw : Ww.Perm (wJ Wc Wr)) {rm : Room} {mc ms : Nat} (hrm : rm.cells = mc ∧ rm.slots = ms ∧ rm.frames ≤ 12 ∧ rm.locals ≤ 314 ∧ mc ≤ 12 ∧ ms ≤ 12351) (hM : ∀ sz : Nat, vx_Met l yX4_repeat wsX4_repeat rm (vh_P D cy e0 mi [.ref vo, .int a0] sz Wc) (vh_N Wc sz) (vh_X D "java/lang/IndexOutOfBoundsException" Wc sz) mc ms (va_A Wc sz)) : Met l yL_repeat wsL_repeat ({ frames := 13, cells := 12, slots := 12351, locals := 345 }) (vk_P D cy e0 mi [.ref vo, .int a0, .ref oa] sz (wJ (uOut cy oa f) Ww)) (vg_Qi (S := Unit) D sz (wJ (uOut cy oa f) Ww) (fun r _ => r = 1) (fun _ => wJ (uOut cy oa f) Ww)) 12 12351 (va_A (wJ (uOut cy oa f) Ww) sz) := by
  refine vw_ofWH (cc := cL_repeat) (maxL := 4) (ret := some .int) (hh := [(0, 9, 12, 13)]) (by decide) rfl ?_
  intro p e s m args below meth c s₁ BB hml hv
  obtain ⟨⟨rfl, hsz, hP, hE, hD0, hF, hZ⟩, hN⟩ := hv
  have hx := BB.exec
  have hb := BB.bytes
  have hr := BB.returns
  have hts := atoms_spec (ws := wsL_repeat) BB.pre
  have hown : s.vm.findClass RL = some m.cls := findClass_of_methodNamed BB.named
  have hlocks := BB.notSynchronized
  subst hsz
  have hD := hD0.self (sz := s.heap.size)
  have hA : ∀ q : Nat, s.heap.size ≤ q → (va_A (wJ (uOut cy oa f) Ww) s.heap.size) q := fun q h => Or.inr h
  have hS : va_S (va_A (wJ (uOut cy oa f) Ww) s.heap.size) s.heap s.heap [] := va_S.rf
  obtain ⟨A0, hA0⟩ : ∃ A0 : Nat → Prop, A0 = va_A (wJ (uOut cy oa f) Ww) s.heap.size := ⟨_, rfl⟩
  rw [← hA0]
  rw [← hA0] at hD hA hS hZ
  have hl := lv_entry ([.ref vo, .int a0, .ref oa]) (n := 4) (Nat.le_of_ble_eq_true rfl)
  rw [lg_entry_eq]
  generalize (lg_sl ([.ref vo, .int a0, .ref oa]) ++ List.replicate (4 - (lg_sl ([.ref vo, .int a0, .ref oa])).length) Slot.unset).toArray = ls at hl ⊢
  have hl : lv_has ls 4 [(0, .ref vo), (1, .int a0), (2, .ref oa)] := hl
  refine lv_aload_n hx hb dL_repeat_0 rfl (lv_at hl 2 rfl) ?_
  refine lv_iconst (v := 0) hx hb dL_repeat_1 (by decide) ?_
  refine vg_tp (nI 0) rfl ?_
  refine lv_aload_n hx hb dL_repeat_2 rfl (lv_at hl 0 rfl) ?_
  refine lv_iload_n hx hb dL_repeat_3 rfl (lv_at hl 1 rfl) ?_
  have hp9 : (wJ (uOut cy oa f) Ww : va_W).Perm (wJ Wc (wJ (uOut cy oa f) Wr)) := ((List.Perm.append_left (uOut cy oa f) hpw).trans (vp_pc (fun n9 hn9 h90 => by simp only [wJ, hn9, h90, Nat.add_zero, Nat.zero_add] <;> ac_rfl)))
  have hP8 := vp_perm hP hp9
  have hD8 := vd_perm hp9 hD
  have hF8 := vj_free hD8 hS hA
  have hDc : va_D (va_A Wc s.heap.size) Wc := ((vd_app.mp hD8).1.weaken (fun _ _ _ _ => trivial) : va_D (fun _ => True) Wc).self (sz := s.heap.size)
  refine vx_callv (vx_runV (As := [.int a0]) (rest := [.int (nI 0), .ref oa]) ⟨hx, hb, hml, hown, hts⟩ (hM s.heap.size) (cwV 1 hts gL_repeat_X4_repeat rfl hrm.1 hrm.2.1 (by decide +kernel) ⟨by show rm.frames + 1 ≤ 13; omega, by show 8 + (4 + 11) + rm.locals ≤ 345; omega⟩) (vh_P.preV hE hF hZ hS (vj_free (vd_perm hp9 hD) hS hA) hP (k0 + 1) (by rw [wJ, uOut, List.singleton_append, List.getElem?_cons_succ]; exact hk0) rfl (vp_app.mp (vp_perm hP hp9)).1 (vd_app.mp (vd_perm hp9 hD)).1) rfl rfl hl.1 rfl (lv_room (Nat.le_of_ble_eq_true rfl)) dL_repeat_4 ⟨by show 0 + mc ≤ 12; omega, by show 0 + ms ≤ 12351; omega⟩) hS (fun q _ h => hF8 q h) hF8 (fun q _ h => hF8 q h) (fun E9 ce q9 u t H1 locs1 ht1 hvm _ hB hz hk hS1 hce hcv hcl => ?_) (fun u t H1 locs1 _ _ hpost => hpost.elim)
  obtain ⟨rfl, hP1⟩ := hB
  rw [ht1] at hP1
  obtain ⟨a81, a82⟩ := vj_join hP8 hD8 hk hF8 hP1 hDc
  have hP : va_P D vwCl (wJ (uOut cy oa f) Ww) H1 := vp_perm a81 hp9.symm
  have hD : va_D A0 (wJ (uOut cy oa f) Ww) := vd_perm hp9.symm a82
  have htab : c.exceptionTable.toList = tableOf [(0, 9, 12, 13)] := vx_table (x := yL_repeat) BB (hts _ List.mem_cons_self)
  refine vx_catch (own := RL) (name := "java/lang/IndexOutOfBoundsException") hown (tableOf []) ⟨0, 9, 12, 13⟩ (tableOf []) (by rw [htab]; rfl) (fun z hz => nomatch hz) (by decide) (by decide) (hts (.classLink RL 13 "java/lang/IndexOutOfBoundsException") (by decide +kernel)) (va_Nw.use rfl (hF.2.2.2.2.2 (.castable "java/lang/IndexOutOfBoundsException" "java/lang/IndexOutOfBoundsException") (by decide +kernel))) hce hcv hcl ?_
  refine lv_astore_n (lv' := [(3, .ref q9), (0, .ref vo), (1, .int a0), (2, .ref oa)]) hx hb dL_repeat_12 rfl hl (by decide) rfl (fun ls hl => ?_)
  refine lv_iconst (v := 1) hx hb dL_repeat_13 (by decide) ?_
  subst hA0
  refine W.widen (k := 12) (n := 12351) (by omega) (by omega) ?_
  exact W.iret (v := 1) hx hb hr (fun t ht hW => ⟨⟨1, (), rfl, rfl, (by rw [ht]; exact hP), hD⟩, hS1.F ht⟩) hS1.2.2 dL_repeat_14

set_option maxHeartbeats 4000000 in
set_option maxRecDepth 100000 in
theorem kL_ofServer_ok {S : Type} (l : Launch) (D : va_G) (cy : Nat → ClassId) (sz e0 mi : Nat) (vo : Nat) (a0 : Int32) (a1 : Int32) (oa : Nat) (f : Nat → Int64) (Ww Wc Wr : va_W) (k0 : Nat) (fs : List Value) (hk0 : Ww[k0]? = some (vo, .inr (5, fs))) (hpw : Ww.Perm (wJ Wc Wr)) (W1 : S → va_W) (post : Int32 → S → Prop) {rm : Room} {mc ms : Nat} (hrm : rm.cells = mc ∧ rm.slots = ms ∧ rm.frames ≤ 12 ∧ rm.locals ≤ 314 ∧ mc ≤ 12 ∧ ms ≤ 12351) (hM : ∀ sz : Nat, Met l yX4_ofServer wsX4_ofServer rm (vh_P D cy e0 mi [.ref vo, .int a0, .int a1] sz Wc) (vg_Qi (S := S) D sz Wc post W1) mc ms (va_A Wc sz)) : Met l yL_ofServer wsL_ofServer ({ frames := 13, cells := 12, slots := 12351, locals := 345 }) (vk_P D cy e0 mi [.ref vo, .int a0, .int a1, .ref oa] sz (wJ (uOut cy oa f) Ww)) (vg_Qi (S := Int32 × S) D sz (wJ (uOut cy oa f) Ww) (fun r u => r = 0 ∧ post u.1 u.2) (fun u => wJ (uOut cy oa (vp_updL f 0 u.1.toInt64)) (wJ (W1 u.2) Wr))) 12 12351 (va_A (wJ (uOut cy oa f) Ww) sz) := by
  refine vw_ofWH (cc := cL_ofServer) (maxL := 5) (ret := some .int) (hh := [(0, 10, 13, 13), (0, 10, 17, 21)]) (by decide) rfl ?_
  intro p e s m args below meth c s₁ BB hml hv
  obtain ⟨⟨rfl, hsz, hP, hE, hD0, hF, hZ⟩, hN⟩ := hv
  have hx := BB.exec
  have hb := BB.bytes
  have hr := BB.returns
  have hts := atoms_spec (ws := wsL_ofServer) BB.pre
  have hown : s.vm.findClass RL = some m.cls := findClass_of_methodNamed BB.named
  have hlocks := BB.notSynchronized
  subst hsz
  have hD := hD0.self (sz := s.heap.size)
  have hA : ∀ q : Nat, s.heap.size ≤ q → (va_A (wJ (uOut cy oa f) Ww) s.heap.size) q := fun q h => Or.inr h
  have hS : va_S (va_A (wJ (uOut cy oa f) Ww) s.heap.size) s.heap s.heap [] := va_S.rf
  obtain ⟨A0, hA0⟩ : ∃ A0 : Nat → Prop, A0 = va_A (wJ (uOut cy oa f) Ww) s.heap.size := ⟨_, rfl⟩
  rw [← hA0]
  rw [← hA0] at hD hA hS hZ
  have hl := lv_entry ([.ref vo, .int a0, .int a1, .ref oa]) (n := 5) (Nat.le_of_ble_eq_true rfl)
  rw [lg_entry_eq]
  generalize (lg_sl ([.ref vo, .int a0, .int a1, .ref oa]) ++ List.replicate (5 - (lg_sl ([.ref vo, .int a0, .int a1, .ref oa])).length) Slot.unset).toArray = ls at hl ⊢
  have hl : lv_has ls 5 [(0, .ref vo), (1, .int a0), (2, .int a1), (3, .ref oa)] := hl
  refine lv_aload_n hx hb dL_ofServer_0 rfl (lv_at hl 3 rfl) ?_
  refine lv_iconst (v := 0) hx hb dL_ofServer_1 (by decide) ?_
  refine vg_tp (nI 0) rfl ?_
  refine lv_aload_n hx hb dL_ofServer_2 rfl (lv_at hl 0 rfl) ?_
  refine lv_iload_n hx hb dL_ofServer_3 rfl (lv_at hl 1 rfl) ?_
  refine lv_iload_n hx hb dL_ofServer_4 rfl (lv_at hl 2 rfl) ?_
  have hp9 : (wJ (uOut cy oa f) Ww : va_W).Perm (wJ Wc (wJ (uOut cy oa f) Wr)) := ((List.Perm.append_left (uOut cy oa f) hpw).trans (vp_pc (fun n9 hn9 h90 => by simp only [wJ, hn9, h90, Nat.add_zero, Nat.zero_add] <;> ac_rfl)))
  refine vj_calli (va_runV (As := [.int a0, .int a1]) (rest := [.int (nI 0), .ref oa]) ⟨hx, hb, hml, hown, hts⟩ (hM s.heap.size) (cwV 2 hts gL_ofServer_X4_ofServer rfl hrm.1 hrm.2.1 (by decide +kernel) ⟨by show rm.frames + 1 ≤ 13; omega, by show 8 + (4 + 11) + rm.locals ≤ 345; omega⟩) (vh_P.preV hE hF hZ hS (vj_free (vd_perm hp9 hD) hS hA) hP (k0 + 1) (by rw [wJ, uOut, List.singleton_append, List.getElem?_cons_succ]; exact hk0) rfl (vp_app.mp (vp_perm hP hp9)).1 (vd_app.mp (vd_perm hp9 hD)).1) rfl rfl hl.1 rfl (lv_room (Nat.le_of_ble_eq_true rfl)) dL_ofServer_5 ⟨by show 0 + mc ≤ 12; omega, by show 0 + ms ≤ 12351; omega⟩) hP hD hS hA hp9 (fun r u H locs hu hP hD hS => ?_)
  have hp7 : (wJ (W1 u) (wJ (uOut cy oa f) Wr) : va_W).Perm (wJ (uOut cy oa f) (wJ (W1 u) Wr)) := (vp_pc (fun n9 hn9 h90 => by simp only [wJ, hn9, h90, Nat.add_zero, Nat.zero_add] <;> ac_rfl))
  have hP : va_P D vwCl (wJ (uOut cy oa f) (wJ (W1 u) Wr)) H := vp_perm hP hp7
  have hD : va_D A0 (wJ (uOut cy oa f) (wJ (W1 u) Wr)) := vd_perm hp7 hD
  refine lv_i2l (v := r.toInt64) hx hb dL_ofServer_8 rfl ?_
  refine vg_last hx hb hE.1 hP hD hS 0 1 rfl rfl (f := f) (j := 0) (by decide) (by decide) dL_ofServer_9 (fun H locs hP hD hS => ?_)
  have hP : va_P D vwCl (wJ (uOut cy oa (vp_updL f 0 r.toInt64)) (wJ (W1 u) Wr)) H := hP
  have hD : va_D A0 (wJ (uOut cy oa (vp_updL f 0 r.toInt64)) (wJ (W1 u) Wr)) := hD
  refine lv_goto (tgt := 21) hx hb dL_ofServer_10 (by decide) ?_
  refine lv_iconst (v := 0) hx hb dL_ofServer_21 (by decide) ?_
  subst hA0
  refine W.widen (k := 12) (n := 12351) (by omega) (by omega) ?_
  exact W.iret (v := 0) hx hb hr (fun t ht hW => ⟨⟨0, (r, u), rfl, ⟨rfl, hu⟩, (by rw [ht]; exact hP), hD⟩, hS.F ht⟩) hS.2.2 dL_ofServer_22

set_option maxHeartbeats 4000000 in
set_option maxRecDepth 100000 in
theorem kL_ofServer_O (l : Launch) (D : va_G) (cy : Nat → ClassId) (sz e0 mi : Nat) (vo : Nat) (a0 : Int32) (a1 : Int32) (oa : Nat) (f : Nat → Int64) (Ww Wc Wr : va_W) (k0 : Nat) (fs : List Value) (hk0 : Ww[k0]? = some (vo, .inr (5, fs))) (hpw : Ww.Perm (wJ Wc Wr)) {rm : Room} {mc ms : Nat} (hrm : rm.cells = mc ∧ rm.slots = ms ∧ rm.frames ≤ 12 ∧ rm.locals ≤ 314 ∧ mc ≤ 12 ∧ ms ≤ 12351) (hM : ∀ sz : Nat, vx_Met l yX4_ofServer wsX4_ofServer rm (vh_P D cy e0 mi [.ref vo, .int a0, .int a1] sz Wc) (vh_N Wc sz) (vh_X D "java/lang/IndexOutOfBoundsException" Wc sz) mc ms (va_A Wc sz)) : Met l yL_ofServer wsL_ofServer ({ frames := 13, cells := 12, slots := 12351, locals := 345 }) (vk_P D cy e0 mi [.ref vo, .int a0, .int a1, .ref oa] sz (wJ (uOut cy oa f) Ww)) (vg_Qi (S := Unit) D sz (wJ (uOut cy oa f) Ww) (fun r _ => r = 1) (fun _ => wJ (uOut cy oa f) Ww)) 12 12351 (va_A (wJ (uOut cy oa f) Ww) sz) := by
  refine vw_ofWH (cc := cL_ofServer) (maxL := 5) (ret := some .int) (hh := [(0, 10, 13, 13), (0, 10, 17, 21)]) (by decide) rfl ?_
  intro p e s m args below meth c s₁ BB hml hv
  obtain ⟨⟨rfl, hsz, hP, hE, hD0, hF, hZ⟩, hN⟩ := hv
  have hx := BB.exec
  have hb := BB.bytes
  have hr := BB.returns
  have hts := atoms_spec (ws := wsL_ofServer) BB.pre
  have hown : s.vm.findClass RL = some m.cls := findClass_of_methodNamed BB.named
  have hlocks := BB.notSynchronized
  subst hsz
  have hD := hD0.self (sz := s.heap.size)
  have hA : ∀ q : Nat, s.heap.size ≤ q → (va_A (wJ (uOut cy oa f) Ww) s.heap.size) q := fun q h => Or.inr h
  have hS : va_S (va_A (wJ (uOut cy oa f) Ww) s.heap.size) s.heap s.heap [] := va_S.rf
  obtain ⟨A0, hA0⟩ : ∃ A0 : Nat → Prop, A0 = va_A (wJ (uOut cy oa f) Ww) s.heap.size := ⟨_, rfl⟩
  rw [← hA0]
  rw [← hA0] at hD hA hS hZ
  have hl := lv_entry ([.ref vo, .int a0, .int a1, .ref oa]) (n := 5) (Nat.le_of_ble_eq_true rfl)
  rw [lg_entry_eq]
  generalize (lg_sl ([.ref vo, .int a0, .int a1, .ref oa]) ++ List.replicate (5 - (lg_sl ([.ref vo, .int a0, .int a1, .ref oa])).length) Slot.unset).toArray = ls at hl ⊢
  have hl : lv_has ls 5 [(0, .ref vo), (1, .int a0), (2, .int a1), (3, .ref oa)] := hl
  refine lv_aload_n hx hb dL_ofServer_0 rfl (lv_at hl 3 rfl) ?_
  refine lv_iconst (v := 0) hx hb dL_ofServer_1 (by decide) ?_
  refine vg_tp (nI 0) rfl ?_
  refine lv_aload_n hx hb dL_ofServer_2 rfl (lv_at hl 0 rfl) ?_
  refine lv_iload_n hx hb dL_ofServer_3 rfl (lv_at hl 1 rfl) ?_
  refine lv_iload_n hx hb dL_ofServer_4 rfl (lv_at hl 2 rfl) ?_
  have hp9 : (wJ (uOut cy oa f) Ww : va_W).Perm (wJ Wc (wJ (uOut cy oa f) Wr)) := ((List.Perm.append_left (uOut cy oa f) hpw).trans (vp_pc (fun n9 hn9 h90 => by simp only [wJ, hn9, h90, Nat.add_zero, Nat.zero_add] <;> ac_rfl)))
  have hP8 := vp_perm hP hp9
  have hD8 := vd_perm hp9 hD
  have hF8 := vj_free hD8 hS hA
  have hDc : va_D (va_A Wc s.heap.size) Wc := ((vd_app.mp hD8).1.weaken (fun _ _ _ _ => trivial) : va_D (fun _ => True) Wc).self (sz := s.heap.size)
  refine vx_callv (vx_runV (As := [.int a0, .int a1]) (rest := [.int (nI 0), .ref oa]) ⟨hx, hb, hml, hown, hts⟩ (hM s.heap.size) (cwV 2 hts gL_ofServer_X4_ofServer rfl hrm.1 hrm.2.1 (by decide +kernel) ⟨by show rm.frames + 1 ≤ 13; omega, by show 8 + (4 + 11) + rm.locals ≤ 345; omega⟩) (vh_P.preV hE hF hZ hS (vj_free (vd_perm hp9 hD) hS hA) hP (k0 + 1) (by rw [wJ, uOut, List.singleton_append, List.getElem?_cons_succ]; exact hk0) rfl (vp_app.mp (vp_perm hP hp9)).1 (vd_app.mp (vd_perm hp9 hD)).1) rfl rfl hl.1 rfl (lv_room (Nat.le_of_ble_eq_true rfl)) dL_ofServer_5 ⟨by show 0 + mc ≤ 12; omega, by show 0 + ms ≤ 12351; omega⟩) hS (fun q _ h => hF8 q h) hF8 (fun q _ h => hF8 q h) (fun E9 ce q9 u t H1 locs1 ht1 hvm _ hB hz hk hS1 hce hcv hcl => ?_) (fun u t H1 locs1 _ _ hpost => hpost.elim)
  obtain ⟨rfl, hP1⟩ := hB
  rw [ht1] at hP1
  obtain ⟨a81, a82⟩ := vj_join hP8 hD8 hk hF8 hP1 hDc
  have hP : va_P D vwCl (wJ (uOut cy oa f) Ww) H1 := vp_perm a81 hp9.symm
  have hD : va_D A0 (wJ (uOut cy oa f) Ww) := vd_perm hp9.symm a82
  have htab : c.exceptionTable.toList = tableOf [(0, 10, 13, 13), (0, 10, 17, 21)] := vx_table (x := yL_ofServer) BB (hts _ List.mem_cons_self)
  refine vx_catch (own := RL) (name := "java/lang/IndexOutOfBoundsException") hown (tableOf []) ⟨0, 10, 13, 13⟩ (tableOf [(0, 10, 17, 21)]) (by rw [htab]; rfl) (fun z hz => nomatch hz) (by decide) (by decide) (hts (.classLink RL 13 "java/lang/IndexOutOfBoundsException") (by decide +kernel)) (va_Nw.use rfl (hF.2.2.2.2.2 (.castable "java/lang/IndexOutOfBoundsException" "java/lang/IndexOutOfBoundsException") (by decide +kernel))) hce hcv hcl ?_
  refine lv_astore (lv' := [(4, .ref q9), (0, .ref vo), (1, .int a0), (2, .int a1), (3, .ref oa)]) hx hb dL_ofServer_13 hl (by decide) rfl (fun ls hl => ?_)
  refine lv_iconst (v := 1) hx hb dL_ofServer_15 (by decide) ?_
  subst hA0
  refine W.widen (k := 12) (n := 12351) (by omega) (by omega) ?_
  exact W.iret (v := 1) hx hb hr (fun t ht hW => ⟨⟨1, (), rfl, rfl, (by rw [ht]; exact hP), hD⟩, hS1.F ht⟩) hS1.2.2 dL_ofServer_16

set_option maxHeartbeats 4000000 in
set_option maxRecDepth 100000 in
theorem kL_ofServer_A (l : Launch) (D : va_G) (cy : Nat → ClassId) (sz e0 mi : Nat) (vo : Nat) (a0 : Int32) (a1 : Int32) (oa : Nat) (f : Nat → Int64) (Ww Wc Wr : va_W) (k0 : Nat) (fs : List Value) (hk0 : Ww[k0]? = some (vo, .inr (5, fs))) (hpw : Ww.Perm (wJ Wc Wr)) {rm : Room} {mc ms : Nat} (hrm : rm.cells = mc ∧ rm.slots = ms ∧ rm.frames ≤ 12 ∧ rm.locals ≤ 314 ∧ mc ≤ 12 ∧ ms ≤ 12351) (hM : ∀ sz : Nat, vx_Met l yX4_ofServer wsX4_ofServer rm (vh_P D cy e0 mi [.ref vo, .int a0, .int a1] sz Wc) (vh_N Wc sz) (vh_X D "java/lang/IllegalArgumentException" Wc sz) mc ms (va_A Wc sz)) : Met l yL_ofServer wsL_ofServer ({ frames := 13, cells := 12, slots := 12351, locals := 345 }) (vk_P D cy e0 mi [.ref vo, .int a0, .int a1, .ref oa] sz (wJ (uOut cy oa f) Ww)) (vg_Qi (S := Unit) D sz (wJ (uOut cy oa f) Ww) (fun r _ => r = 2) (fun _ => wJ (uOut cy oa f) Ww)) 12 12351 (va_A (wJ (uOut cy oa f) Ww) sz) := by
  refine vw_ofWH (cc := cL_ofServer) (maxL := 5) (ret := some .int) (hh := [(0, 10, 13, 13), (0, 10, 17, 21)]) (by decide) rfl ?_
  intro p e s m args below meth c s₁ BB hml hv
  obtain ⟨⟨rfl, hsz, hP, hE, hD0, hF, hZ⟩, hN⟩ := hv
  have hx := BB.exec
  have hb := BB.bytes
  have hr := BB.returns
  have hts := atoms_spec (ws := wsL_ofServer) BB.pre
  have hown : s.vm.findClass RL = some m.cls := findClass_of_methodNamed BB.named
  have hlocks := BB.notSynchronized
  subst hsz
  have hD := hD0.self (sz := s.heap.size)
  have hA : ∀ q : Nat, s.heap.size ≤ q → (va_A (wJ (uOut cy oa f) Ww) s.heap.size) q := fun q h => Or.inr h
  have hS : va_S (va_A (wJ (uOut cy oa f) Ww) s.heap.size) s.heap s.heap [] := va_S.rf
  obtain ⟨A0, hA0⟩ : ∃ A0 : Nat → Prop, A0 = va_A (wJ (uOut cy oa f) Ww) s.heap.size := ⟨_, rfl⟩
  rw [← hA0]
  rw [← hA0] at hD hA hS hZ
  have hl := lv_entry ([.ref vo, .int a0, .int a1, .ref oa]) (n := 5) (Nat.le_of_ble_eq_true rfl)
  rw [lg_entry_eq]
  generalize (lg_sl ([.ref vo, .int a0, .int a1, .ref oa]) ++ List.replicate (5 - (lg_sl ([.ref vo, .int a0, .int a1, .ref oa])).length) Slot.unset).toArray = ls at hl ⊢
  have hl : lv_has ls 5 [(0, .ref vo), (1, .int a0), (2, .int a1), (3, .ref oa)] := hl
  refine lv_aload_n hx hb dL_ofServer_0 rfl (lv_at hl 3 rfl) ?_
  refine lv_iconst (v := 0) hx hb dL_ofServer_1 (by decide) ?_
  refine vg_tp (nI 0) rfl ?_
  refine lv_aload_n hx hb dL_ofServer_2 rfl (lv_at hl 0 rfl) ?_
  refine lv_iload_n hx hb dL_ofServer_3 rfl (lv_at hl 1 rfl) ?_
  refine lv_iload_n hx hb dL_ofServer_4 rfl (lv_at hl 2 rfl) ?_
  have hp9 : (wJ (uOut cy oa f) Ww : va_W).Perm (wJ Wc (wJ (uOut cy oa f) Wr)) := ((List.Perm.append_left (uOut cy oa f) hpw).trans (vp_pc (fun n9 hn9 h90 => by simp only [wJ, hn9, h90, Nat.add_zero, Nat.zero_add] <;> ac_rfl)))
  have hP8 := vp_perm hP hp9
  have hD8 := vd_perm hp9 hD
  have hF8 := vj_free hD8 hS hA
  have hDc : va_D (va_A Wc s.heap.size) Wc := ((vd_app.mp hD8).1.weaken (fun _ _ _ _ => trivial) : va_D (fun _ => True) Wc).self (sz := s.heap.size)
  refine vx_callv (vx_runV (As := [.int a0, .int a1]) (rest := [.int (nI 0), .ref oa]) ⟨hx, hb, hml, hown, hts⟩ (hM s.heap.size) (cwV 2 hts gL_ofServer_X4_ofServer rfl hrm.1 hrm.2.1 (by decide +kernel) ⟨by show rm.frames + 1 ≤ 13; omega, by show 8 + (4 + 11) + rm.locals ≤ 345; omega⟩) (vh_P.preV hE hF hZ hS (vj_free (vd_perm hp9 hD) hS hA) hP (k0 + 1) (by rw [wJ, uOut, List.singleton_append, List.getElem?_cons_succ]; exact hk0) rfl (vp_app.mp (vp_perm hP hp9)).1 (vd_app.mp (vd_perm hp9 hD)).1) rfl rfl hl.1 rfl (lv_room (Nat.le_of_ble_eq_true rfl)) dL_ofServer_5 ⟨by show 0 + mc ≤ 12; omega, by show 0 + ms ≤ 12351; omega⟩) hS (fun q _ h => hF8 q h) hF8 (fun q _ h => hF8 q h) (fun E9 ce q9 u t H1 locs1 ht1 hvm _ hB hz hk hS1 hce hcv hcl => ?_) (fun u t H1 locs1 _ _ hpost => hpost.elim)
  obtain ⟨rfl, hP1⟩ := hB
  rw [ht1] at hP1
  obtain ⟨a81, a82⟩ := vj_join hP8 hD8 hk hF8 hP1 hDc
  have hP : va_P D vwCl (wJ (uOut cy oa f) Ww) H1 := vp_perm a81 hp9.symm
  have hD : va_D A0 (wJ (uOut cy oa f) Ww) := vd_perm hp9.symm a82
  have htab : c.exceptionTable.toList = tableOf [(0, 10, 13, 13), (0, 10, 17, 21)] := vx_table (x := yL_ofServer) BB (hts _ List.mem_cons_self)
  refine vx_catch (own := RL) (name := "java/lang/IllegalArgumentException") hown (tableOf [(0, 10, 13, 13)]) ⟨0, 10, 17, 21⟩ (tableOf []) (by rw [htab]; rfl) ?_ (by decide) (by decide) (hts (.classLink RL 21 "java/lang/IllegalArgumentException") (by decide +kernel)) (va_Nw.use rfl (hF.2.2.2.2.2 (.castable "java/lang/IllegalArgumentException" "java/lang/IllegalArgumentException") (by decide +kernel))) hce hcv hcl ?_
  · intro z hz
    simp only [tableOf, List.map_cons, List.map_nil, List.mem_cons, List.not_mem_nil, or_false] at hz
    rcases hz with rfl
    · exact Or.inr ⟨by decide, "java/lang/IndexOutOfBoundsException", hts (.classLink RL 13 "java/lang/IndexOutOfBoundsException") (by decide +kernel), hN.1⟩
  refine lv_astore (lv' := [(4, .ref q9), (0, .ref vo), (1, .int a0), (2, .int a1), (3, .ref oa)]) hx hb dL_ofServer_17 hl (by decide) rfl (fun ls hl => ?_)
  refine lv_iconst (v := 2) hx hb dL_ofServer_19 (by decide) ?_
  subst hA0
  refine W.widen (k := 12) (n := 12351) (by omega) (by omega) ?_
  exact W.iret (v := 2) hx hb hr (fun t ht hW => ⟨⟨2, (), rfl, rfl, (by rw [ht]; exact hP), hD⟩, hS1.F ht⟩) hS1.2.2 dL_ofServer_20

set_option maxHeartbeats 4000000 in
set_option maxRecDepth 100000 in
theorem kL_between_ok {S : Type} (l : Launch) (D : va_G) (cy : Nat → ClassId) (sz e0 mi : Nat) (vo : Nat) (a0 : Int32) (a1 : Int32) (a2 : Int32) (oa : Nat) (f : Nat → Int64) (Ww Wc Wr : va_W) (k0 : Nat) (fs : List Value) (hk0 : Ww[k0]? = some (vo, .inr (5, fs))) (hpw : Ww.Perm (wJ Wc Wr)) (W1 : S → va_W) (post : Int32 → S → Prop) {rm : Room} {mc ms : Nat} (hrm : rm.cells = mc ∧ rm.slots = ms ∧ rm.frames ≤ 12 ∧ rm.locals ≤ 314 ∧ mc ≤ 12 ∧ ms ≤ 12351) (hM : ∀ sz : Nat, Met l yX4_between wsX4_between rm (vh_P D cy e0 mi [.ref vo, .int a0, .int a1, .int a2] sz Wc) (vg_Qi (S := S) D sz Wc post W1) mc ms (va_A Wc sz)) : Met l yL_between wsL_between ({ frames := 13, cells := 12, slots := 12351, locals := 345 }) (vk_P D cy e0 mi [.ref vo, .int a0, .int a1, .int a2, .ref oa] sz (wJ (uOut cy oa f) Ww)) (vg_Qi (S := Int32 × S) D sz (wJ (uOut cy oa f) Ww) (fun r u => r = 0 ∧ post u.1 u.2) (fun u => wJ (uOut cy oa (vp_updL f 0 u.1.toInt64)) (wJ (W1 u.2) Wr))) 12 12351 (va_A (wJ (uOut cy oa f) Ww) sz) := by
  refine vw_ofWH (cc := cL_between) (maxL := 6) (ret := some .int) (hh := [(0, 12, 15, 13)]) (by decide) rfl ?_
  intro p e s m args below meth c s₁ BB hml hv
  obtain ⟨⟨rfl, hsz, hP, hE, hD0, hF, hZ⟩, hN⟩ := hv
  have hx := BB.exec
  have hb := BB.bytes
  have hr := BB.returns
  have hts := atoms_spec (ws := wsL_between) BB.pre
  have hown : s.vm.findClass RL = some m.cls := findClass_of_methodNamed BB.named
  have hlocks := BB.notSynchronized
  subst hsz
  have hD := hD0.self (sz := s.heap.size)
  have hA : ∀ q : Nat, s.heap.size ≤ q → (va_A (wJ (uOut cy oa f) Ww) s.heap.size) q := fun q h => Or.inr h
  have hS : va_S (va_A (wJ (uOut cy oa f) Ww) s.heap.size) s.heap s.heap [] := va_S.rf
  obtain ⟨A0, hA0⟩ : ∃ A0 : Nat → Prop, A0 = va_A (wJ (uOut cy oa f) Ww) s.heap.size := ⟨_, rfl⟩
  rw [← hA0]
  rw [← hA0] at hD hA hS hZ
  have hl := lv_entry ([.ref vo, .int a0, .int a1, .int a2, .ref oa]) (n := 6) (Nat.le_of_ble_eq_true rfl)
  rw [lg_entry_eq]
  generalize (lg_sl ([.ref vo, .int a0, .int a1, .int a2, .ref oa]) ++ List.replicate (6 - (lg_sl ([.ref vo, .int a0, .int a1, .int a2, .ref oa])).length) Slot.unset).toArray = ls at hl ⊢
  have hl : lv_has ls 6 [(0, .ref vo), (1, .int a0), (2, .int a1), (3, .int a2), (4, .ref oa)] := hl
  refine lv_aload hx hb dL_between_0 (lv_at hl 4 rfl) ?_
  refine lv_iconst (v := 0) hx hb dL_between_2 (by decide) ?_
  refine vg_tp (nI 0) rfl ?_
  refine lv_aload_n hx hb dL_between_3 rfl (lv_at hl 0 rfl) ?_
  refine lv_iload_n hx hb dL_between_4 rfl (lv_at hl 1 rfl) ?_
  refine lv_iload_n hx hb dL_between_5 rfl (lv_at hl 2 rfl) ?_
  refine lv_iload_n hx hb dL_between_6 rfl (lv_at hl 3 rfl) ?_
  have hp9 : (wJ (uOut cy oa f) Ww : va_W).Perm (wJ Wc (wJ (uOut cy oa f) Wr)) := ((List.Perm.append_left (uOut cy oa f) hpw).trans (vp_pc (fun n9 hn9 h90 => by simp only [wJ, hn9, h90, Nat.add_zero, Nat.zero_add] <;> ac_rfl)))
  refine vj_calli (va_runV (As := [.int a0, .int a1, .int a2]) (rest := [.int (nI 0), .ref oa]) ⟨hx, hb, hml, hown, hts⟩ (hM s.heap.size) (cwV 3 hts gL_between_X4_between rfl hrm.1 hrm.2.1 (by decide +kernel) ⟨by show rm.frames + 1 ≤ 13; omega, by show 8 + (6 + 11) + rm.locals ≤ 345; omega⟩) (vh_P.preV hE hF hZ hS (vj_free (vd_perm hp9 hD) hS hA) hP (k0 + 1) (by rw [wJ, uOut, List.singleton_append, List.getElem?_cons_succ]; exact hk0) rfl (vp_app.mp (vp_perm hP hp9)).1 (vd_app.mp (vd_perm hp9 hD)).1) rfl rfl hl.1 rfl (lv_room (Nat.le_of_ble_eq_true rfl)) dL_between_7 ⟨by show 0 + mc ≤ 12; omega, by show 0 + ms ≤ 12351; omega⟩) hP hD hS hA hp9 (fun r u H locs hu hP hD hS => ?_)
  have hp7 : (wJ (W1 u) (wJ (uOut cy oa f) Wr) : va_W).Perm (wJ (uOut cy oa f) (wJ (W1 u) Wr)) := (vp_pc (fun n9 hn9 h90 => by simp only [wJ, hn9, h90, Nat.add_zero, Nat.zero_add] <;> ac_rfl))
  have hP : va_P D vwCl (wJ (uOut cy oa f) (wJ (W1 u) Wr)) H := vp_perm hP hp7
  have hD : va_D A0 (wJ (uOut cy oa f) (wJ (W1 u) Wr)) := vd_perm hp7 hD
  refine lv_i2l (v := r.toInt64) hx hb dL_between_10 rfl ?_
  refine vg_last hx hb hE.1 hP hD hS 0 1 rfl rfl (f := f) (j := 0) (by decide) (by decide) dL_between_11 (fun H locs hP hD hS => ?_)
  have hP : va_P D vwCl (wJ (uOut cy oa (vp_updL f 0 r.toInt64)) (wJ (W1 u) Wr)) H := hP
  have hD : va_D A0 (wJ (uOut cy oa (vp_updL f 0 r.toInt64)) (wJ (W1 u) Wr)) := hD
  refine lv_goto (tgt := 19) hx hb dL_between_12 (by decide) ?_
  refine lv_iconst (v := 0) hx hb dL_between_19 (by decide) ?_
  subst hA0
  refine W.widen (k := 12) (n := 12351) (by omega) (by omega) ?_
  exact W.iret (v := 0) hx hb hr (fun t ht hW => ⟨⟨0, (r, u), rfl, ⟨rfl, hu⟩, (by rw [ht]; exact hP), hD⟩, hS.F ht⟩) hS.2.2 dL_between_20

set_option maxHeartbeats 4000000 in
set_option maxRecDepth 100000 in
theorem kL_between_O (l : Launch) (D : va_G) (cy : Nat → ClassId) (sz e0 mi : Nat) (vo : Nat) (a0 : Int32) (a1 : Int32) (a2 : Int32) (oa : Nat) (f : Nat → Int64) (Ww Wc Wr : va_W) (k0 : Nat) (fs : List Value) (hk0 : Ww[k0]? = some (vo, .inr (5, fs))) (hpw : Ww.Perm (wJ Wc Wr)) {rm : Room} {mc ms : Nat} (hrm : rm.cells = mc ∧ rm.slots = ms ∧ rm.frames ≤ 12 ∧ rm.locals ≤ 314 ∧ mc ≤ 12 ∧ ms ≤ 12351) (hM : ∀ sz : Nat, vx_Met l yX4_between wsX4_between rm (vh_P D cy e0 mi [.ref vo, .int a0, .int a1, .int a2] sz Wc) (vh_N Wc sz) (vh_X D "java/lang/IndexOutOfBoundsException" Wc sz) mc ms (va_A Wc sz)) : Met l yL_between wsL_between ({ frames := 13, cells := 12, slots := 12351, locals := 345 }) (vk_P D cy e0 mi [.ref vo, .int a0, .int a1, .int a2, .ref oa] sz (wJ (uOut cy oa f) Ww)) (vg_Qi (S := Unit) D sz (wJ (uOut cy oa f) Ww) (fun r _ => r = 1) (fun _ => wJ (uOut cy oa f) Ww)) 12 12351 (va_A (wJ (uOut cy oa f) Ww) sz) := by
  refine vw_ofWH (cc := cL_between) (maxL := 6) (ret := some .int) (hh := [(0, 12, 15, 13)]) (by decide) rfl ?_
  intro p e s m args below meth c s₁ BB hml hv
  obtain ⟨⟨rfl, hsz, hP, hE, hD0, hF, hZ⟩, hN⟩ := hv
  have hx := BB.exec
  have hb := BB.bytes
  have hr := BB.returns
  have hts := atoms_spec (ws := wsL_between) BB.pre
  have hown : s.vm.findClass RL = some m.cls := findClass_of_methodNamed BB.named
  have hlocks := BB.notSynchronized
  subst hsz
  have hD := hD0.self (sz := s.heap.size)
  have hA : ∀ q : Nat, s.heap.size ≤ q → (va_A (wJ (uOut cy oa f) Ww) s.heap.size) q := fun q h => Or.inr h
  have hS : va_S (va_A (wJ (uOut cy oa f) Ww) s.heap.size) s.heap s.heap [] := va_S.rf
  obtain ⟨A0, hA0⟩ : ∃ A0 : Nat → Prop, A0 = va_A (wJ (uOut cy oa f) Ww) s.heap.size := ⟨_, rfl⟩
  rw [← hA0]
  rw [← hA0] at hD hA hS hZ
  have hl := lv_entry ([.ref vo, .int a0, .int a1, .int a2, .ref oa]) (n := 6) (Nat.le_of_ble_eq_true rfl)
  rw [lg_entry_eq]
  generalize (lg_sl ([.ref vo, .int a0, .int a1, .int a2, .ref oa]) ++ List.replicate (6 - (lg_sl ([.ref vo, .int a0, .int a1, .int a2, .ref oa])).length) Slot.unset).toArray = ls at hl ⊢
  have hl : lv_has ls 6 [(0, .ref vo), (1, .int a0), (2, .int a1), (3, .int a2), (4, .ref oa)] := hl
  refine lv_aload hx hb dL_between_0 (lv_at hl 4 rfl) ?_
  refine lv_iconst (v := 0) hx hb dL_between_2 (by decide) ?_
  refine vg_tp (nI 0) rfl ?_
  refine lv_aload_n hx hb dL_between_3 rfl (lv_at hl 0 rfl) ?_
  refine lv_iload_n hx hb dL_between_4 rfl (lv_at hl 1 rfl) ?_
  refine lv_iload_n hx hb dL_between_5 rfl (lv_at hl 2 rfl) ?_
  refine lv_iload_n hx hb dL_between_6 rfl (lv_at hl 3 rfl) ?_
  have hp9 : (wJ (uOut cy oa f) Ww : va_W).Perm (wJ Wc (wJ (uOut cy oa f) Wr)) := ((List.Perm.append_left (uOut cy oa f) hpw).trans (vp_pc (fun n9 hn9 h90 => by simp only [wJ, hn9, h90, Nat.add_zero, Nat.zero_add] <;> ac_rfl)))
  have hP8 := vp_perm hP hp9
  have hD8 := vd_perm hp9 hD
  have hF8 := vj_free hD8 hS hA
  have hDc : va_D (va_A Wc s.heap.size) Wc := ((vd_app.mp hD8).1.weaken (fun _ _ _ _ => trivial) : va_D (fun _ => True) Wc).self (sz := s.heap.size)
  refine vx_callv (vx_runV (As := [.int a0, .int a1, .int a2]) (rest := [.int (nI 0), .ref oa]) ⟨hx, hb, hml, hown, hts⟩ (hM s.heap.size) (cwV 3 hts gL_between_X4_between rfl hrm.1 hrm.2.1 (by decide +kernel) ⟨by show rm.frames + 1 ≤ 13; omega, by show 8 + (6 + 11) + rm.locals ≤ 345; omega⟩) (vh_P.preV hE hF hZ hS (vj_free (vd_perm hp9 hD) hS hA) hP (k0 + 1) (by rw [wJ, uOut, List.singleton_append, List.getElem?_cons_succ]; exact hk0) rfl (vp_app.mp (vp_perm hP hp9)).1 (vd_app.mp (vd_perm hp9 hD)).1) rfl rfl hl.1 rfl (lv_room (Nat.le_of_ble_eq_true rfl)) dL_between_7 ⟨by show 0 + mc ≤ 12; omega, by show 0 + ms ≤ 12351; omega⟩) hS (fun q _ h => hF8 q h) hF8 (fun q _ h => hF8 q h) (fun E9 ce q9 u t H1 locs1 ht1 hvm _ hB hz hk hS1 hce hcv hcl => ?_) (fun u t H1 locs1 _ _ hpost => hpost.elim)
  obtain ⟨rfl, hP1⟩ := hB
  rw [ht1] at hP1
  obtain ⟨a81, a82⟩ := vj_join hP8 hD8 hk hF8 hP1 hDc
  have hP : va_P D vwCl (wJ (uOut cy oa f) Ww) H1 := vp_perm a81 hp9.symm
  have hD : va_D A0 (wJ (uOut cy oa f) Ww) := vd_perm hp9.symm a82
  have htab : c.exceptionTable.toList = tableOf [(0, 12, 15, 13)] := vx_table (x := yL_between) BB (hts _ List.mem_cons_self)
  refine vx_catch (own := RL) (name := "java/lang/IndexOutOfBoundsException") hown (tableOf []) ⟨0, 12, 15, 13⟩ (tableOf []) (by rw [htab]; rfl) (fun z hz => nomatch hz) (by decide) (by decide) (hts (.classLink RL 13 "java/lang/IndexOutOfBoundsException") (by decide +kernel)) (va_Nw.use rfl (hF.2.2.2.2.2 (.castable "java/lang/IndexOutOfBoundsException" "java/lang/IndexOutOfBoundsException") (by decide +kernel))) hce hcv hcl ?_
  refine lv_astore (lv' := [(5, .ref q9), (0, .ref vo), (1, .int a0), (2, .int a1), (3, .int a2), (4, .ref oa)]) hx hb dL_between_15 hl (by decide) rfl (fun ls hl => ?_)
  refine lv_iconst (v := 1) hx hb dL_between_17 (by decide) ?_
  subst hA0
  refine W.widen (k := 12) (n := 12351) (by omega) (by omega) ?_
  exact W.iret (v := 1) hx hb hr (fun t ht hW => ⟨⟨1, (), rfl, rfl, (by rw [ht]; exact hP), hD⟩, hS1.F ht⟩) hS1.2.2 dL_between_18

set_option maxHeartbeats 4000000 in
set_option maxRecDepth 100000 in
theorem kL_sees_ok {S : Type} (l : Launch) (D : va_G) (cy : Nat → ClassId) (sz e0 mi : Nat) (vo : Nat) (a0 : Int32) (a1 : Int32) (oa : Nat) (f : Nat → Int64) (Ww Wc Wr : va_W) (k0 : Nat) (fs : List Value) (hk0 : Ww[k0]? = some (vo, .inr (5, fs))) (hpw : Ww.Perm (wJ Wc Wr)) (W1 : S → va_W) (post : Int32 → S → Prop) {rm : Room} {mc ms : Nat} (hrm : rm.cells = mc ∧ rm.slots = ms ∧ rm.frames ≤ 12 ∧ rm.locals ≤ 314 ∧ mc ≤ 12 ∧ ms ≤ 12351) (hz : ∀ r u, post r u → r = 0 ∨ r = 1) (hM : ∀ sz : Nat, Met l yX4_sees wsX4_sees rm (vh_P D cy e0 mi [.ref vo, .int a0, .int a1] sz Wc) (vg_Qi (S := S) D sz Wc post W1) mc ms (va_A Wc sz)) : Met l yL_sees wsL_sees ({ frames := 13, cells := 12, slots := 12351, locals := 345 }) (vk_P D cy e0 mi [.ref vo, .int a0, .int a1, .ref oa] sz (wJ (uOut cy oa f) Ww)) (vg_Qi (S := Int32 × S) D sz (wJ (uOut cy oa f) Ww) (fun r u => r = 0 ∧ post u.1 u.2) (fun u => wJ (uOut cy oa (vp_updL f 0 u.1.toInt64)) (wJ (W1 u.2) Wr))) 12 12351 (va_A (wJ (uOut cy oa f) Ww) sz) := by
  refine vw_ofWH (cc := cL_sees) (maxL := 5) (ret := some .int) (hh := [(0, 17, 20, 13)]) (by decide) rfl ?_
  intro p e s m args below meth c s₁ BB hml hv
  obtain ⟨⟨rfl, hsz, hP, hE, hD0, hF, hZ⟩, hN⟩ := hv
  have hx := BB.exec
  have hb := BB.bytes
  have hr := BB.returns
  have hts := atoms_spec (ws := wsL_sees) BB.pre
  have hown : s.vm.findClass RL = some m.cls := findClass_of_methodNamed BB.named
  have hlocks := BB.notSynchronized
  subst hsz
  have hD := hD0.self (sz := s.heap.size)
  have hA : ∀ q : Nat, s.heap.size ≤ q → (va_A (wJ (uOut cy oa f) Ww) s.heap.size) q := fun q h => Or.inr h
  have hS : va_S (va_A (wJ (uOut cy oa f) Ww) s.heap.size) s.heap s.heap [] := va_S.rf
  obtain ⟨A0, hA0⟩ : ∃ A0 : Nat → Prop, A0 = va_A (wJ (uOut cy oa f) Ww) s.heap.size := ⟨_, rfl⟩
  rw [← hA0]
  rw [← hA0] at hD hA hS hZ
  have hl := lv_entry ([.ref vo, .int a0, .int a1, .ref oa]) (n := 5) (Nat.le_of_ble_eq_true rfl)
  rw [lg_entry_eq]
  generalize (lg_sl ([.ref vo, .int a0, .int a1, .ref oa]) ++ List.replicate (5 - (lg_sl ([.ref vo, .int a0, .int a1, .ref oa])).length) Slot.unset).toArray = ls at hl ⊢
  have hl : lv_has ls 5 [(0, .ref vo), (1, .int a0), (2, .int a1), (3, .ref oa)] := hl
  refine lv_aload_n hx hb dL_sees_0 rfl (lv_at hl 3 rfl) ?_
  refine lv_iconst (v := 0) hx hb dL_sees_1 (by decide) ?_
  refine vg_tp (nI 0) rfl ?_
  refine lv_aload_n hx hb dL_sees_2 rfl (lv_at hl 0 rfl) ?_
  refine lv_iload_n hx hb dL_sees_3 rfl (lv_at hl 1 rfl) ?_
  refine lv_iload_n hx hb dL_sees_4 rfl (lv_at hl 2 rfl) ?_
  have hp9 : (wJ (uOut cy oa f) Ww : va_W).Perm (wJ Wc (wJ (uOut cy oa f) Wr)) := ((List.Perm.append_left (uOut cy oa f) hpw).trans (vp_pc (fun n9 hn9 h90 => by simp only [wJ, hn9, h90, Nat.add_zero, Nat.zero_add] <;> ac_rfl)))
  refine vj_calli (va_runV (As := [.int a0, .int a1]) (rest := [.int (nI 0), .ref oa]) ⟨hx, hb, hml, hown, hts⟩ (hM s.heap.size) (cwV 2 hts gL_sees_X4_sees rfl hrm.1 hrm.2.1 (by decide +kernel) ⟨by show rm.frames + 1 ≤ 13; omega, by show 8 + (3 + 11) + rm.locals ≤ 345; omega⟩) (vh_P.preV hE hF hZ hS (vj_free (vd_perm hp9 hD) hS hA) hP (k0 + 1) (by rw [wJ, uOut, List.singleton_append, List.getElem?_cons_succ]; exact hk0) rfl (vp_app.mp (vp_perm hP hp9)).1 (vd_app.mp (vd_perm hp9 hD)).1) rfl rfl hl.1 rfl (lv_room (Nat.le_of_ble_eq_true rfl)) dL_sees_5 ⟨by show 0 + mc ≤ 12; omega, by show 0 + ms ≤ 12351; omega⟩) hP hD hS hA hp9 (fun r u H locs hu hP hD hS => ?_)
  have hp7 : (wJ (W1 u) (wJ (uOut cy oa f) Wr) : va_W).Perm (wJ (uOut cy oa f) (wJ (W1 u) Wr)) := (vp_pc (fun n9 hn9 h90 => by simp only [wJ, hn9, h90, Nat.add_zero, Nat.zero_add] <;> ac_rfl))
  have hP : va_P D vwCl (wJ (uOut cy oa f) (wJ (W1 u) Wr)) H := vp_perm hP hp7
  have hD : va_D A0 (wJ (uOut cy oa f) (wJ (W1 u) Wr)) := vd_perm hp7 hD
  rcases hz r u hu with hr0 | hr0
  · subst hr0
    refine lv_if_eq (tgt := 15) hx hb dL_sees_8 (by decide) (fun _ => ?_) (fun c9 => absurd rfl c9)
    refine lv_lconst (v := 0) hx hb dL_sees_15 (by decide) ?_
    refine vg_tpl (0 : Int32).toInt64 (by decide) ?_
    refine vg_last hx hb hE.1 hP hD hS 0 1 rfl rfl (f := f) (j := 0) (by decide) (by decide) dL_sees_16 (fun H locs hP hD hS => ?_)
    have hP : va_P D vwCl (wJ (uOut cy oa (vp_updL f 0 (0 : Int32).toInt64)) (wJ (W1 u) Wr)) H := hP
    have hD : va_D A0 (wJ (uOut cy oa (vp_updL f 0 (0 : Int32).toInt64)) (wJ (W1 u) Wr)) := hD
    refine lv_goto (tgt := 24) hx hb dL_sees_17 (by decide) ?_
    refine lv_iconst (v := 0) hx hb dL_sees_24 (by decide) ?_
    subst hA0
    refine W.widen (k := 12) (n := 12351) (by omega) (by omega) ?_
    exact W.iret (v := 0) hx hb hr (fun t ht hW => ⟨⟨0, ((0 : Int32), u), rfl, ⟨rfl, hu⟩, (by rw [ht]; exact hP), hD⟩, hS.F ht⟩) hS.2.2 dL_sees_25
  · subst hr0
    refine lv_if_eq (tgt := 15) hx hb dL_sees_8 (by decide) (fun c9 => absurd c9 (by decide)) (fun _ => ?_)
    refine lv_lconst (v := 1) hx hb dL_sees_11 (by decide) ?_
    refine vg_tpl (1 : Int32).toInt64 (by decide) ?_
    refine lv_goto (tgt := 16) hx hb dL_sees_12 (by decide) ?_
    refine vg_last hx hb hE.1 hP hD hS 0 1 rfl rfl (f := f) (j := 0) (by decide) (by decide) dL_sees_16 (fun H locs hP hD hS => ?_)
    have hP : va_P D vwCl (wJ (uOut cy oa (vp_updL f 0 (1 : Int32).toInt64)) (wJ (W1 u) Wr)) H := hP
    have hD : va_D A0 (wJ (uOut cy oa (vp_updL f 0 (1 : Int32).toInt64)) (wJ (W1 u) Wr)) := hD
    refine lv_goto (tgt := 24) hx hb dL_sees_17 (by decide) ?_
    refine lv_iconst (v := 0) hx hb dL_sees_24 (by decide) ?_
    subst hA0
    refine W.widen (k := 12) (n := 12351) (by omega) (by omega) ?_
    exact W.iret (v := 0) hx hb hr (fun t ht hW => ⟨⟨0, ((1 : Int32), u), rfl, ⟨rfl, hu⟩, (by rw [ht]; exact hP), hD⟩, hS.F ht⟩) hS.2.2 dL_sees_25

set_option maxHeartbeats 4000000 in
set_option maxRecDepth 100000 in
theorem kL_sees_O (l : Launch) (D : va_G) (cy : Nat → ClassId) (sz e0 mi : Nat) (vo : Nat) (a0 : Int32) (a1 : Int32) (oa : Nat) (f : Nat → Int64) (Ww Wc Wr : va_W) (k0 : Nat) (fs : List Value) (hk0 : Ww[k0]? = some (vo, .inr (5, fs))) (hpw : Ww.Perm (wJ Wc Wr)) {rm : Room} {mc ms : Nat} (hrm : rm.cells = mc ∧ rm.slots = ms ∧ rm.frames ≤ 12 ∧ rm.locals ≤ 314 ∧ mc ≤ 12 ∧ ms ≤ 12351) (hM : ∀ sz : Nat, vx_Met l yX4_sees wsX4_sees rm (vh_P D cy e0 mi [.ref vo, .int a0, .int a1] sz Wc) (vh_N Wc sz) (vh_X D "java/lang/IndexOutOfBoundsException" Wc sz) mc ms (va_A Wc sz)) : Met l yL_sees wsL_sees ({ frames := 13, cells := 12, slots := 12351, locals := 345 }) (vk_P D cy e0 mi [.ref vo, .int a0, .int a1, .ref oa] sz (wJ (uOut cy oa f) Ww)) (vg_Qi (S := Unit) D sz (wJ (uOut cy oa f) Ww) (fun r _ => r = 1) (fun _ => wJ (uOut cy oa f) Ww)) 12 12351 (va_A (wJ (uOut cy oa f) Ww) sz) := by
  refine vw_ofWH (cc := cL_sees) (maxL := 5) (ret := some .int) (hh := [(0, 17, 20, 13)]) (by decide) rfl ?_
  intro p e s m args below meth c s₁ BB hml hv
  obtain ⟨⟨rfl, hsz, hP, hE, hD0, hF, hZ⟩, hN⟩ := hv
  have hx := BB.exec
  have hb := BB.bytes
  have hr := BB.returns
  have hts := atoms_spec (ws := wsL_sees) BB.pre
  have hown : s.vm.findClass RL = some m.cls := findClass_of_methodNamed BB.named
  have hlocks := BB.notSynchronized
  subst hsz
  have hD := hD0.self (sz := s.heap.size)
  have hA : ∀ q : Nat, s.heap.size ≤ q → (va_A (wJ (uOut cy oa f) Ww) s.heap.size) q := fun q h => Or.inr h
  have hS : va_S (va_A (wJ (uOut cy oa f) Ww) s.heap.size) s.heap s.heap [] := va_S.rf
  obtain ⟨A0, hA0⟩ : ∃ A0 : Nat → Prop, A0 = va_A (wJ (uOut cy oa f) Ww) s.heap.size := ⟨_, rfl⟩
  rw [← hA0]
  rw [← hA0] at hD hA hS hZ
  have hl := lv_entry ([.ref vo, .int a0, .int a1, .ref oa]) (n := 5) (Nat.le_of_ble_eq_true rfl)
  rw [lg_entry_eq]
  generalize (lg_sl ([.ref vo, .int a0, .int a1, .ref oa]) ++ List.replicate (5 - (lg_sl ([.ref vo, .int a0, .int a1, .ref oa])).length) Slot.unset).toArray = ls at hl ⊢
  have hl : lv_has ls 5 [(0, .ref vo), (1, .int a0), (2, .int a1), (3, .ref oa)] := hl
  refine lv_aload_n hx hb dL_sees_0 rfl (lv_at hl 3 rfl) ?_
  refine lv_iconst (v := 0) hx hb dL_sees_1 (by decide) ?_
  refine vg_tp (nI 0) rfl ?_
  refine lv_aload_n hx hb dL_sees_2 rfl (lv_at hl 0 rfl) ?_
  refine lv_iload_n hx hb dL_sees_3 rfl (lv_at hl 1 rfl) ?_
  refine lv_iload_n hx hb dL_sees_4 rfl (lv_at hl 2 rfl) ?_
  have hp9 : (wJ (uOut cy oa f) Ww : va_W).Perm (wJ Wc (wJ (uOut cy oa f) Wr)) := ((List.Perm.append_left (uOut cy oa f) hpw).trans (vp_pc (fun n9 hn9 h90 => by simp only [wJ, hn9, h90, Nat.add_zero, Nat.zero_add] <;> ac_rfl)))
  have hP8 := vp_perm hP hp9
  have hD8 := vd_perm hp9 hD
  have hF8 := vj_free hD8 hS hA
  have hDc : va_D (va_A Wc s.heap.size) Wc := ((vd_app.mp hD8).1.weaken (fun _ _ _ _ => trivial) : va_D (fun _ => True) Wc).self (sz := s.heap.size)
  refine vx_callv (vx_runV (As := [.int a0, .int a1]) (rest := [.int (nI 0), .ref oa]) ⟨hx, hb, hml, hown, hts⟩ (hM s.heap.size) (cwV 2 hts gL_sees_X4_sees rfl hrm.1 hrm.2.1 (by decide +kernel) ⟨by show rm.frames + 1 ≤ 13; omega, by show 8 + (3 + 11) + rm.locals ≤ 345; omega⟩) (vh_P.preV hE hF hZ hS (vj_free (vd_perm hp9 hD) hS hA) hP (k0 + 1) (by rw [wJ, uOut, List.singleton_append, List.getElem?_cons_succ]; exact hk0) rfl (vp_app.mp (vp_perm hP hp9)).1 (vd_app.mp (vd_perm hp9 hD)).1) rfl rfl hl.1 rfl (lv_room (Nat.le_of_ble_eq_true rfl)) dL_sees_5 ⟨by show 0 + mc ≤ 12; omega, by show 0 + ms ≤ 12351; omega⟩) hS (fun q _ h => hF8 q h) hF8 (fun q _ h => hF8 q h) (fun E9 ce q9 u t H1 locs1 ht1 hvm _ hB hz hk hS1 hce hcv hcl => ?_) (fun u t H1 locs1 _ _ hpost => hpost.elim)
  obtain ⟨rfl, hP1⟩ := hB
  rw [ht1] at hP1
  obtain ⟨a81, a82⟩ := vj_join hP8 hD8 hk hF8 hP1 hDc
  have hP : va_P D vwCl (wJ (uOut cy oa f) Ww) H1 := vp_perm a81 hp9.symm
  have hD : va_D A0 (wJ (uOut cy oa f) Ww) := vd_perm hp9.symm a82
  have htab : c.exceptionTable.toList = tableOf [(0, 17, 20, 13)] := vx_table (x := yL_sees) BB (hts _ List.mem_cons_self)
  refine vx_catch (own := RL) (name := "java/lang/IndexOutOfBoundsException") hown (tableOf []) ⟨0, 17, 20, 13⟩ (tableOf []) (by rw [htab]; rfl) (fun z hz => nomatch hz) (by decide) (by decide) (hts (.classLink RL 13 "java/lang/IndexOutOfBoundsException") (by decide +kernel)) (va_Nw.use rfl (hF.2.2.2.2.2 (.castable "java/lang/IndexOutOfBoundsException" "java/lang/IndexOutOfBoundsException") (by decide +kernel))) hce hcv hcl ?_
  refine lv_astore (lv' := [(4, .ref q9), (0, .ref vo), (1, .int a0), (2, .int a1), (3, .ref oa)]) hx hb dL_sees_20 hl (by decide) rfl (fun ls hl => ?_)
  refine lv_iconst (v := 1) hx hb dL_sees_22 (by decide) ?_
  subst hA0
  refine W.widen (k := 12) (n := 12351) (by omega) (by omega) ?_
  exact W.iret (v := 1) hx hb hr (fun t ht hW => ⟨⟨1, (), rfl, rfl, (by rw [ht]; exact hP), hD⟩, hS1.F ht⟩) hS1.2.2 dL_sees_23

set_option maxHeartbeats 4000000 in
set_option maxRecDepth 100000 in
theorem kL_seesAnew_ok {S : Type} (l : Launch) (D : va_G) (cy : Nat → ClassId) (sz e0 mi : Nat) (vo : Nat) (a0 : Int32) (a1 : Int32) (oa : Nat) (f : Nat → Int64) (Ww Wc Wr : va_W) (k0 : Nat) (fs : List Value) (hk0 : Ww[k0]? = some (vo, .inr (5, fs))) (hpw : Ww.Perm (wJ Wc Wr)) (W1 : S → va_W) (post : Int32 → S → Prop) {rm : Room} {mc ms : Nat} (hrm : rm.cells = mc ∧ rm.slots = ms ∧ rm.frames ≤ 12 ∧ rm.locals ≤ 314 ∧ mc ≤ 12 ∧ ms ≤ 12351) (hz : ∀ r u, post r u → r = 0 ∨ r = 1) (hM : ∀ sz : Nat, Met l yX4_seesAnew wsX4_seesAnew rm (vh_P D cy e0 mi [.ref vo, .int a0, .int a1] sz Wc) (vg_Qi (S := S) D sz Wc post W1) mc ms (va_A Wc sz)) : Met l yL_seesAnew wsL_seesAnew ({ frames := 13, cells := 12, slots := 12351, locals := 345 }) (vk_P D cy e0 mi [.ref vo, .int a0, .int a1, .ref oa] sz (wJ (uOut cy oa f) Ww)) (vg_Qi (S := Int32 × S) D sz (wJ (uOut cy oa f) Ww) (fun r u => r = 0 ∧ post u.1 u.2) (fun u => wJ (uOut cy oa (vp_updL f 0 u.1.toInt64)) (wJ (W1 u.2) Wr))) 12 12351 (va_A (wJ (uOut cy oa f) Ww) sz) := by
  refine vw_ofWH (cc := cL_seesAnew) (maxL := 5) (ret := some .int) (hh := [(0, 17, 20, 13)]) (by decide) rfl ?_
  intro p e s m args below meth c s₁ BB hml hv
  obtain ⟨⟨rfl, hsz, hP, hE, hD0, hF, hZ⟩, hN⟩ := hv
  have hx := BB.exec
  have hb := BB.bytes
  have hr := BB.returns
  have hts := atoms_spec (ws := wsL_seesAnew) BB.pre
  have hown : s.vm.findClass RL = some m.cls := findClass_of_methodNamed BB.named
  have hlocks := BB.notSynchronized
  subst hsz
  have hD := hD0.self (sz := s.heap.size)
  have hA : ∀ q : Nat, s.heap.size ≤ q → (va_A (wJ (uOut cy oa f) Ww) s.heap.size) q := fun q h => Or.inr h
  have hS : va_S (va_A (wJ (uOut cy oa f) Ww) s.heap.size) s.heap s.heap [] := va_S.rf
  obtain ⟨A0, hA0⟩ : ∃ A0 : Nat → Prop, A0 = va_A (wJ (uOut cy oa f) Ww) s.heap.size := ⟨_, rfl⟩
  rw [← hA0]
  rw [← hA0] at hD hA hS hZ
  have hl := lv_entry ([.ref vo, .int a0, .int a1, .ref oa]) (n := 5) (Nat.le_of_ble_eq_true rfl)
  rw [lg_entry_eq]
  generalize (lg_sl ([.ref vo, .int a0, .int a1, .ref oa]) ++ List.replicate (5 - (lg_sl ([.ref vo, .int a0, .int a1, .ref oa])).length) Slot.unset).toArray = ls at hl ⊢
  have hl : lv_has ls 5 [(0, .ref vo), (1, .int a0), (2, .int a1), (3, .ref oa)] := hl
  refine lv_aload_n hx hb dL_seesAnew_0 rfl (lv_at hl 3 rfl) ?_
  refine lv_iconst (v := 0) hx hb dL_seesAnew_1 (by decide) ?_
  refine vg_tp (nI 0) rfl ?_
  refine lv_aload_n hx hb dL_seesAnew_2 rfl (lv_at hl 0 rfl) ?_
  refine lv_iload_n hx hb dL_seesAnew_3 rfl (lv_at hl 1 rfl) ?_
  refine lv_iload_n hx hb dL_seesAnew_4 rfl (lv_at hl 2 rfl) ?_
  have hp9 : (wJ (uOut cy oa f) Ww : va_W).Perm (wJ Wc (wJ (uOut cy oa f) Wr)) := ((List.Perm.append_left (uOut cy oa f) hpw).trans (vp_pc (fun n9 hn9 h90 => by simp only [wJ, hn9, h90, Nat.add_zero, Nat.zero_add] <;> ac_rfl)))
  refine vj_calli (va_runV (As := [.int a0, .int a1]) (rest := [.int (nI 0), .ref oa]) ⟨hx, hb, hml, hown, hts⟩ (hM s.heap.size) (cwV 2 hts gL_seesAnew_X4_seesAnew rfl hrm.1 hrm.2.1 (by decide +kernel) ⟨by show rm.frames + 1 ≤ 13; omega, by show 8 + (5 + 11) + rm.locals ≤ 345; omega⟩) (vh_P.preV hE hF hZ hS (vj_free (vd_perm hp9 hD) hS hA) hP (k0 + 1) (by rw [wJ, uOut, List.singleton_append, List.getElem?_cons_succ]; exact hk0) rfl (vp_app.mp (vp_perm hP hp9)).1 (vd_app.mp (vd_perm hp9 hD)).1) rfl rfl hl.1 rfl (lv_room (Nat.le_of_ble_eq_true rfl)) dL_seesAnew_5 ⟨by show 0 + mc ≤ 12; omega, by show 0 + ms ≤ 12351; omega⟩) hP hD hS hA hp9 (fun r u H locs hu hP hD hS => ?_)
  have hp7 : (wJ (W1 u) (wJ (uOut cy oa f) Wr) : va_W).Perm (wJ (uOut cy oa f) (wJ (W1 u) Wr)) := (vp_pc (fun n9 hn9 h90 => by simp only [wJ, hn9, h90, Nat.add_zero, Nat.zero_add] <;> ac_rfl))
  have hP : va_P D vwCl (wJ (uOut cy oa f) (wJ (W1 u) Wr)) H := vp_perm hP hp7
  have hD : va_D A0 (wJ (uOut cy oa f) (wJ (W1 u) Wr)) := vd_perm hp7 hD
  rcases hz r u hu with hr0 | hr0
  · subst hr0
    refine lv_if_eq (tgt := 15) hx hb dL_seesAnew_8 (by decide) (fun _ => ?_) (fun c9 => absurd rfl c9)
    refine lv_lconst (v := 0) hx hb dL_seesAnew_15 (by decide) ?_
    refine vg_tpl (0 : Int32).toInt64 (by decide) ?_
    refine vg_last hx hb hE.1 hP hD hS 0 1 rfl rfl (f := f) (j := 0) (by decide) (by decide) dL_seesAnew_16 (fun H locs hP hD hS => ?_)
    have hP : va_P D vwCl (wJ (uOut cy oa (vp_updL f 0 (0 : Int32).toInt64)) (wJ (W1 u) Wr)) H := hP
    have hD : va_D A0 (wJ (uOut cy oa (vp_updL f 0 (0 : Int32).toInt64)) (wJ (W1 u) Wr)) := hD
    refine lv_goto (tgt := 24) hx hb dL_seesAnew_17 (by decide) ?_
    refine lv_iconst (v := 0) hx hb dL_seesAnew_24 (by decide) ?_
    subst hA0
    refine W.widen (k := 12) (n := 12351) (by omega) (by omega) ?_
    exact W.iret (v := 0) hx hb hr (fun t ht hW => ⟨⟨0, ((0 : Int32), u), rfl, ⟨rfl, hu⟩, (by rw [ht]; exact hP), hD⟩, hS.F ht⟩) hS.2.2 dL_seesAnew_25
  · subst hr0
    refine lv_if_eq (tgt := 15) hx hb dL_seesAnew_8 (by decide) (fun c9 => absurd c9 (by decide)) (fun _ => ?_)
    refine lv_lconst (v := 1) hx hb dL_seesAnew_11 (by decide) ?_
    refine vg_tpl (1 : Int32).toInt64 (by decide) ?_
    refine lv_goto (tgt := 16) hx hb dL_seesAnew_12 (by decide) ?_
    refine vg_last hx hb hE.1 hP hD hS 0 1 rfl rfl (f := f) (j := 0) (by decide) (by decide) dL_seesAnew_16 (fun H locs hP hD hS => ?_)
    have hP : va_P D vwCl (wJ (uOut cy oa (vp_updL f 0 (1 : Int32).toInt64)) (wJ (W1 u) Wr)) H := hP
    have hD : va_D A0 (wJ (uOut cy oa (vp_updL f 0 (1 : Int32).toInt64)) (wJ (W1 u) Wr)) := hD
    refine lv_goto (tgt := 24) hx hb dL_seesAnew_17 (by decide) ?_
    refine lv_iconst (v := 0) hx hb dL_seesAnew_24 (by decide) ?_
    subst hA0
    refine W.widen (k := 12) (n := 12351) (by omega) (by omega) ?_
    exact W.iret (v := 0) hx hb hr (fun t ht hW => ⟨⟨0, ((1 : Int32), u), rfl, ⟨rfl, hu⟩, (by rw [ht]; exact hP), hD⟩, hS.F ht⟩) hS.2.2 dL_seesAnew_25

set_option maxHeartbeats 4000000 in
set_option maxRecDepth 100000 in
theorem kL_seesAnew_O (l : Launch) (D : va_G) (cy : Nat → ClassId) (sz e0 mi : Nat) (vo : Nat) (a0 : Int32) (a1 : Int32) (oa : Nat) (f : Nat → Int64) (Ww Wc Wr : va_W) (k0 : Nat) (fs : List Value) (hk0 : Ww[k0]? = some (vo, .inr (5, fs))) (hpw : Ww.Perm (wJ Wc Wr)) {rm : Room} {mc ms : Nat} (hrm : rm.cells = mc ∧ rm.slots = ms ∧ rm.frames ≤ 12 ∧ rm.locals ≤ 314 ∧ mc ≤ 12 ∧ ms ≤ 12351) (hM : ∀ sz : Nat, vx_Met l yX4_seesAnew wsX4_seesAnew rm (vh_P D cy e0 mi [.ref vo, .int a0, .int a1] sz Wc) (vh_N Wc sz) (vh_X D "java/lang/IndexOutOfBoundsException" Wc sz) mc ms (va_A Wc sz)) : Met l yL_seesAnew wsL_seesAnew ({ frames := 13, cells := 12, slots := 12351, locals := 345 }) (vk_P D cy e0 mi [.ref vo, .int a0, .int a1, .ref oa] sz (wJ (uOut cy oa f) Ww)) (vg_Qi (S := Unit) D sz (wJ (uOut cy oa f) Ww) (fun r _ => r = 1) (fun _ => wJ (uOut cy oa f) Ww)) 12 12351 (va_A (wJ (uOut cy oa f) Ww) sz) := by
  refine vw_ofWH (cc := cL_seesAnew) (maxL := 5) (ret := some .int) (hh := [(0, 17, 20, 13)]) (by decide) rfl ?_
  intro p e s m args below meth c s₁ BB hml hv
  obtain ⟨⟨rfl, hsz, hP, hE, hD0, hF, hZ⟩, hN⟩ := hv
  have hx := BB.exec
  have hb := BB.bytes
  have hr := BB.returns
  have hts := atoms_spec (ws := wsL_seesAnew) BB.pre
  have hown : s.vm.findClass RL = some m.cls := findClass_of_methodNamed BB.named
  have hlocks := BB.notSynchronized
  subst hsz
  have hD := hD0.self (sz := s.heap.size)
  have hA : ∀ q : Nat, s.heap.size ≤ q → (va_A (wJ (uOut cy oa f) Ww) s.heap.size) q := fun q h => Or.inr h
  have hS : va_S (va_A (wJ (uOut cy oa f) Ww) s.heap.size) s.heap s.heap [] := va_S.rf
  obtain ⟨A0, hA0⟩ : ∃ A0 : Nat → Prop, A0 = va_A (wJ (uOut cy oa f) Ww) s.heap.size := ⟨_, rfl⟩
  rw [← hA0]
  rw [← hA0] at hD hA hS hZ
  have hl := lv_entry ([.ref vo, .int a0, .int a1, .ref oa]) (n := 5) (Nat.le_of_ble_eq_true rfl)
  rw [lg_entry_eq]
  generalize (lg_sl ([.ref vo, .int a0, .int a1, .ref oa]) ++ List.replicate (5 - (lg_sl ([.ref vo, .int a0, .int a1, .ref oa])).length) Slot.unset).toArray = ls at hl ⊢
  have hl : lv_has ls 5 [(0, .ref vo), (1, .int a0), (2, .int a1), (3, .ref oa)] := hl
  refine lv_aload_n hx hb dL_seesAnew_0 rfl (lv_at hl 3 rfl) ?_
  refine lv_iconst (v := 0) hx hb dL_seesAnew_1 (by decide) ?_
  refine vg_tp (nI 0) rfl ?_
  refine lv_aload_n hx hb dL_seesAnew_2 rfl (lv_at hl 0 rfl) ?_
  refine lv_iload_n hx hb dL_seesAnew_3 rfl (lv_at hl 1 rfl) ?_
  refine lv_iload_n hx hb dL_seesAnew_4 rfl (lv_at hl 2 rfl) ?_
  have hp9 : (wJ (uOut cy oa f) Ww : va_W).Perm (wJ Wc (wJ (uOut cy oa f) Wr)) := ((List.Perm.append_left (uOut cy oa f) hpw).trans (vp_pc (fun n9 hn9 h90 => by simp only [wJ, hn9, h90, Nat.add_zero, Nat.zero_add] <;> ac_rfl)))
  have hP8 := vp_perm hP hp9
  have hD8 := vd_perm hp9 hD
  have hF8 := vj_free hD8 hS hA
  have hDc : va_D (va_A Wc s.heap.size) Wc := ((vd_app.mp hD8).1.weaken (fun _ _ _ _ => trivial) : va_D (fun _ => True) Wc).self (sz := s.heap.size)
  refine vx_callv (vx_runV (As := [.int a0, .int a1]) (rest := [.int (nI 0), .ref oa]) ⟨hx, hb, hml, hown, hts⟩ (hM s.heap.size) (cwV 2 hts gL_seesAnew_X4_seesAnew rfl hrm.1 hrm.2.1 (by decide +kernel) ⟨by show rm.frames + 1 ≤ 13; omega, by show 8 + (5 + 11) + rm.locals ≤ 345; omega⟩) (vh_P.preV hE hF hZ hS (vj_free (vd_perm hp9 hD) hS hA) hP (k0 + 1) (by rw [wJ, uOut, List.singleton_append, List.getElem?_cons_succ]; exact hk0) rfl (vp_app.mp (vp_perm hP hp9)).1 (vd_app.mp (vd_perm hp9 hD)).1) rfl rfl hl.1 rfl (lv_room (Nat.le_of_ble_eq_true rfl)) dL_seesAnew_5 ⟨by show 0 + mc ≤ 12; omega, by show 0 + ms ≤ 12351; omega⟩) hS (fun q _ h => hF8 q h) hF8 (fun q _ h => hF8 q h) (fun E9 ce q9 u t H1 locs1 ht1 hvm _ hB hz hk hS1 hce hcv hcl => ?_) (fun u t H1 locs1 _ _ hpost => hpost.elim)
  obtain ⟨rfl, hP1⟩ := hB
  rw [ht1] at hP1
  obtain ⟨a81, a82⟩ := vj_join hP8 hD8 hk hF8 hP1 hDc
  have hP : va_P D vwCl (wJ (uOut cy oa f) Ww) H1 := vp_perm a81 hp9.symm
  have hD : va_D A0 (wJ (uOut cy oa f) Ww) := vd_perm hp9.symm a82
  have htab : c.exceptionTable.toList = tableOf [(0, 17, 20, 13)] := vx_table (x := yL_seesAnew) BB (hts _ List.mem_cons_self)
  refine vx_catch (own := RL) (name := "java/lang/IndexOutOfBoundsException") hown (tableOf []) ⟨0, 17, 20, 13⟩ (tableOf []) (by rw [htab]; rfl) (fun z hz => nomatch hz) (by decide) (by decide) (hts (.classLink RL 13 "java/lang/IndexOutOfBoundsException") (by decide +kernel)) (va_Nw.use rfl (hF.2.2.2.2.2 (.castable "java/lang/IndexOutOfBoundsException" "java/lang/IndexOutOfBoundsException") (by decide +kernel))) hce hcv hcl ?_
  refine lv_astore (lv' := [(4, .ref q9), (0, .ref vo), (1, .int a0), (2, .int a1), (3, .ref oa)]) hx hb dL_seesAnew_20 hl (by decide) rfl (fun ls hl => ?_)
  refine lv_iconst (v := 1) hx hb dL_seesAnew_22 (by decide) ?_
  subst hA0
  refine W.widen (k := 12) (n := 12351) (by omega) (by omega) ?_
  exact W.iret (v := 1) hx hb hr (fun t ht hW => ⟨⟨1, (), rfl, rfl, (by rw [ht]; exact hP), hD⟩, hS1.F ht⟩) hS1.2.2 dL_seesAnew_23

set_option maxHeartbeats 4000000 in
set_option maxRecDepth 100000 in
theorem kL_home_ok {S : Type} (l : Launch) (D : va_G) (cy : Nat → ClassId) (sz e0 mi : Nat) (vo : Nat) (a0 : Int32) (a1 : Int32) (oa : Nat) (f : Nat → Int64) (Ww Wc Wr : va_W) (k0 : Nat) (fs : List Value) (hk0 : Ww[k0]? = some (vo, .inr (5, fs))) (hpw : Ww.Perm (wJ Wc Wr)) (W1 : S → va_W) (post : Int32 → S → Prop) {rm : Room} {mc ms : Nat} (hrm : rm.cells = mc ∧ rm.slots = ms ∧ rm.frames ≤ 12 ∧ rm.locals ≤ 314 ∧ mc ≤ 12 ∧ ms ≤ 12351) (hM : ∀ sz : Nat, Met l yX4_home wsX4_home rm (vh_P D cy e0 mi [.ref vo, .int a0, .int a1] sz Wc) (vg_Qi (S := S) D sz Wc post W1) mc ms (va_A Wc sz)) : Met l yL_home wsL_home ({ frames := 13, cells := 12, slots := 12351, locals := 345 }) (vk_P D cy e0 mi [.ref vo, .int a0, .int a1, .ref oa] sz (wJ (uOut cy oa f) Ww)) (vg_Qi (S := Int32 × S) D sz (wJ (uOut cy oa f) Ww) (fun r u => r = 0 ∧ post u.1 u.2) (fun u => wJ (uOut cy oa (vp_updL f 0 u.1.toInt64)) (wJ (W1 u.2) Wr))) 12 12351 (va_A (wJ (uOut cy oa f) Ww) sz) := by
  refine vw_ofWH (cc := cL_home) (maxL := 5) (ret := some .int) (hh := [(0, 10, 13, 13)]) (by decide) rfl ?_
  intro p e s m args below meth c s₁ BB hml hv
  obtain ⟨⟨rfl, hsz, hP, hE, hD0, hF, hZ⟩, hN⟩ := hv
  have hx := BB.exec
  have hb := BB.bytes
  have hr := BB.returns
  have hts := atoms_spec (ws := wsL_home) BB.pre
  have hown : s.vm.findClass RL = some m.cls := findClass_of_methodNamed BB.named
  have hlocks := BB.notSynchronized
  subst hsz
  have hD := hD0.self (sz := s.heap.size)
  have hA : ∀ q : Nat, s.heap.size ≤ q → (va_A (wJ (uOut cy oa f) Ww) s.heap.size) q := fun q h => Or.inr h
  have hS : va_S (va_A (wJ (uOut cy oa f) Ww) s.heap.size) s.heap s.heap [] := va_S.rf
  obtain ⟨A0, hA0⟩ : ∃ A0 : Nat → Prop, A0 = va_A (wJ (uOut cy oa f) Ww) s.heap.size := ⟨_, rfl⟩
  rw [← hA0]
  rw [← hA0] at hD hA hS hZ
  have hl := lv_entry ([.ref vo, .int a0, .int a1, .ref oa]) (n := 5) (Nat.le_of_ble_eq_true rfl)
  rw [lg_entry_eq]
  generalize (lg_sl ([.ref vo, .int a0, .int a1, .ref oa]) ++ List.replicate (5 - (lg_sl ([.ref vo, .int a0, .int a1, .ref oa])).length) Slot.unset).toArray = ls at hl ⊢
  have hl : lv_has ls 5 [(0, .ref vo), (1, .int a0), (2, .int a1), (3, .ref oa)] := hl
  refine lv_aload_n hx hb dL_home_0 rfl (lv_at hl 3 rfl) ?_
  refine lv_iconst (v := 0) hx hb dL_home_1 (by decide) ?_
  refine vg_tp (nI 0) rfl ?_
  refine lv_aload_n hx hb dL_home_2 rfl (lv_at hl 0 rfl) ?_
  refine lv_iload_n hx hb dL_home_3 rfl (lv_at hl 1 rfl) ?_
  refine lv_iload_n hx hb dL_home_4 rfl (lv_at hl 2 rfl) ?_
  have hp9 : (wJ (uOut cy oa f) Ww : va_W).Perm (wJ Wc (wJ (uOut cy oa f) Wr)) := ((List.Perm.append_left (uOut cy oa f) hpw).trans (vp_pc (fun n9 hn9 h90 => by simp only [wJ, hn9, h90, Nat.add_zero, Nat.zero_add] <;> ac_rfl)))
  refine vj_calli (va_runV (As := [.int a0, .int a1]) (rest := [.int (nI 0), .ref oa]) ⟨hx, hb, hml, hown, hts⟩ (hM s.heap.size) (cwV 2 hts gL_home_X4_home rfl hrm.1 hrm.2.1 (by decide +kernel) ⟨by show rm.frames + 1 ≤ 13; omega, by show 8 + (6 + 11) + rm.locals ≤ 345; omega⟩) (vh_P.preV hE hF hZ hS (vj_free (vd_perm hp9 hD) hS hA) hP (k0 + 1) (by rw [wJ, uOut, List.singleton_append, List.getElem?_cons_succ]; exact hk0) rfl (vp_app.mp (vp_perm hP hp9)).1 (vd_app.mp (vd_perm hp9 hD)).1) rfl rfl hl.1 rfl (lv_room (Nat.le_of_ble_eq_true rfl)) dL_home_5 ⟨by show 0 + mc ≤ 12; omega, by show 0 + ms ≤ 12351; omega⟩) hP hD hS hA hp9 (fun r u H locs hu hP hD hS => ?_)
  have hp7 : (wJ (W1 u) (wJ (uOut cy oa f) Wr) : va_W).Perm (wJ (uOut cy oa f) (wJ (W1 u) Wr)) := (vp_pc (fun n9 hn9 h90 => by simp only [wJ, hn9, h90, Nat.add_zero, Nat.zero_add] <;> ac_rfl))
  have hP : va_P D vwCl (wJ (uOut cy oa f) (wJ (W1 u) Wr)) H := vp_perm hP hp7
  have hD : va_D A0 (wJ (uOut cy oa f) (wJ (W1 u) Wr)) := vd_perm hp7 hD
  refine lv_i2l (v := r.toInt64) hx hb dL_home_8 rfl ?_
  refine vg_last hx hb hE.1 hP hD hS 0 1 rfl rfl (f := f) (j := 0) (by decide) (by decide) dL_home_9 (fun H locs hP hD hS => ?_)
  have hP : va_P D vwCl (wJ (uOut cy oa (vp_updL f 0 r.toInt64)) (wJ (W1 u) Wr)) H := hP
  have hD : va_D A0 (wJ (uOut cy oa (vp_updL f 0 r.toInt64)) (wJ (W1 u) Wr)) := hD
  refine lv_goto (tgt := 17) hx hb dL_home_10 (by decide) ?_
  refine lv_iconst (v := 0) hx hb dL_home_17 (by decide) ?_
  subst hA0
  refine W.widen (k := 12) (n := 12351) (by omega) (by omega) ?_
  exact W.iret (v := 0) hx hb hr (fun t ht hW => ⟨⟨0, (r, u), rfl, ⟨rfl, hu⟩, (by rw [ht]; exact hP), hD⟩, hS.F ht⟩) hS.2.2 dL_home_18

set_option maxHeartbeats 4000000 in
set_option maxRecDepth 100000 in
theorem kL_home_O (l : Launch) (D : va_G) (cy : Nat → ClassId) (sz e0 mi : Nat) (vo : Nat) (a0 : Int32) (a1 : Int32) (oa : Nat) (f : Nat → Int64) (Ww Wc Wr : va_W) (k0 : Nat) (fs : List Value) (hk0 : Ww[k0]? = some (vo, .inr (5, fs))) (hpw : Ww.Perm (wJ Wc Wr)) {rm : Room} {mc ms : Nat} (hrm : rm.cells = mc ∧ rm.slots = ms ∧ rm.frames ≤ 12 ∧ rm.locals ≤ 314 ∧ mc ≤ 12 ∧ ms ≤ 12351) (hM : ∀ sz : Nat, vx_Met l yX4_home wsX4_home rm (vh_P D cy e0 mi [.ref vo, .int a0, .int a1] sz Wc) (vh_N Wc sz) (vh_X D "java/lang/IndexOutOfBoundsException" Wc sz) mc ms (va_A Wc sz)) : Met l yL_home wsL_home ({ frames := 13, cells := 12, slots := 12351, locals := 345 }) (vk_P D cy e0 mi [.ref vo, .int a0, .int a1, .ref oa] sz (wJ (uOut cy oa f) Ww)) (vg_Qi (S := Unit) D sz (wJ (uOut cy oa f) Ww) (fun r _ => r = 1) (fun _ => wJ (uOut cy oa f) Ww)) 12 12351 (va_A (wJ (uOut cy oa f) Ww) sz) := by
  refine vw_ofWH (cc := cL_home) (maxL := 5) (ret := some .int) (hh := [(0, 10, 13, 13)]) (by decide) rfl ?_
  intro p e s m args below meth c s₁ BB hml hv
  obtain ⟨⟨rfl, hsz, hP, hE, hD0, hF, hZ⟩, hN⟩ := hv
  have hx := BB.exec
  have hb := BB.bytes
  have hr := BB.returns
  have hts := atoms_spec (ws := wsL_home) BB.pre
  have hown : s.vm.findClass RL = some m.cls := findClass_of_methodNamed BB.named
  have hlocks := BB.notSynchronized
  subst hsz
  have hD := hD0.self (sz := s.heap.size)
  have hA : ∀ q : Nat, s.heap.size ≤ q → (va_A (wJ (uOut cy oa f) Ww) s.heap.size) q := fun q h => Or.inr h
  have hS : va_S (va_A (wJ (uOut cy oa f) Ww) s.heap.size) s.heap s.heap [] := va_S.rf
  obtain ⟨A0, hA0⟩ : ∃ A0 : Nat → Prop, A0 = va_A (wJ (uOut cy oa f) Ww) s.heap.size := ⟨_, rfl⟩
  rw [← hA0]
  rw [← hA0] at hD hA hS hZ
  have hl := lv_entry ([.ref vo, .int a0, .int a1, .ref oa]) (n := 5) (Nat.le_of_ble_eq_true rfl)
  rw [lg_entry_eq]
  generalize (lg_sl ([.ref vo, .int a0, .int a1, .ref oa]) ++ List.replicate (5 - (lg_sl ([.ref vo, .int a0, .int a1, .ref oa])).length) Slot.unset).toArray = ls at hl ⊢
  have hl : lv_has ls 5 [(0, .ref vo), (1, .int a0), (2, .int a1), (3, .ref oa)] := hl
  refine lv_aload_n hx hb dL_home_0 rfl (lv_at hl 3 rfl) ?_
  refine lv_iconst (v := 0) hx hb dL_home_1 (by decide) ?_
  refine vg_tp (nI 0) rfl ?_
  refine lv_aload_n hx hb dL_home_2 rfl (lv_at hl 0 rfl) ?_
  refine lv_iload_n hx hb dL_home_3 rfl (lv_at hl 1 rfl) ?_
  refine lv_iload_n hx hb dL_home_4 rfl (lv_at hl 2 rfl) ?_
  have hp9 : (wJ (uOut cy oa f) Ww : va_W).Perm (wJ Wc (wJ (uOut cy oa f) Wr)) := ((List.Perm.append_left (uOut cy oa f) hpw).trans (vp_pc (fun n9 hn9 h90 => by simp only [wJ, hn9, h90, Nat.add_zero, Nat.zero_add] <;> ac_rfl)))
  have hP8 := vp_perm hP hp9
  have hD8 := vd_perm hp9 hD
  have hF8 := vj_free hD8 hS hA
  have hDc : va_D (va_A Wc s.heap.size) Wc := ((vd_app.mp hD8).1.weaken (fun _ _ _ _ => trivial) : va_D (fun _ => True) Wc).self (sz := s.heap.size)
  refine vx_callv (vx_runV (As := [.int a0, .int a1]) (rest := [.int (nI 0), .ref oa]) ⟨hx, hb, hml, hown, hts⟩ (hM s.heap.size) (cwV 2 hts gL_home_X4_home rfl hrm.1 hrm.2.1 (by decide +kernel) ⟨by show rm.frames + 1 ≤ 13; omega, by show 8 + (6 + 11) + rm.locals ≤ 345; omega⟩) (vh_P.preV hE hF hZ hS (vj_free (vd_perm hp9 hD) hS hA) hP (k0 + 1) (by rw [wJ, uOut, List.singleton_append, List.getElem?_cons_succ]; exact hk0) rfl (vp_app.mp (vp_perm hP hp9)).1 (vd_app.mp (vd_perm hp9 hD)).1) rfl rfl hl.1 rfl (lv_room (Nat.le_of_ble_eq_true rfl)) dL_home_5 ⟨by show 0 + mc ≤ 12; omega, by show 0 + ms ≤ 12351; omega⟩) hS (fun q _ h => hF8 q h) hF8 (fun q _ h => hF8 q h) (fun E9 ce q9 u t H1 locs1 ht1 hvm _ hB hz hk hS1 hce hcv hcl => ?_) (fun u t H1 locs1 _ _ hpost => hpost.elim)
  obtain ⟨rfl, hP1⟩ := hB
  rw [ht1] at hP1
  obtain ⟨a81, a82⟩ := vj_join hP8 hD8 hk hF8 hP1 hDc
  have hP : va_P D vwCl (wJ (uOut cy oa f) Ww) H1 := vp_perm a81 hp9.symm
  have hD : va_D A0 (wJ (uOut cy oa f) Ww) := vd_perm hp9.symm a82
  have htab : c.exceptionTable.toList = tableOf [(0, 10, 13, 13)] := vx_table (x := yL_home) BB (hts _ List.mem_cons_self)
  refine vx_catch (own := RL) (name := "java/lang/IndexOutOfBoundsException") hown (tableOf []) ⟨0, 10, 13, 13⟩ (tableOf []) (by rw [htab]; rfl) (fun z hz => nomatch hz) (by decide) (by decide) (hts (.classLink RL 13 "java/lang/IndexOutOfBoundsException") (by decide +kernel)) (va_Nw.use rfl (hF.2.2.2.2.2 (.castable "java/lang/IndexOutOfBoundsException" "java/lang/IndexOutOfBoundsException") (by decide +kernel))) hce hcv hcl ?_
  refine lv_astore (lv' := [(4, .ref q9), (0, .ref vo), (1, .int a0), (2, .int a1), (3, .ref oa)]) hx hb dL_home_13 hl (by decide) rfl (fun ls hl => ?_)
  refine lv_iconst (v := 1) hx hb dL_home_15 (by decide) ?_
  subst hA0
  refine W.widen (k := 12) (n := 12351) (by omega) (by omega) ?_
  exact W.iret (v := 1) hx hb hr (fun t ht hW => ⟨⟨1, (), rfl, rfl, (by rw [ht]; exact hP), hD⟩, hS1.F ht⟩) hS1.2.2 dL_home_16
