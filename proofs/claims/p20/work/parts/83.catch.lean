/-! p20: the law's small methods: they catch -/
theorem vw_ofWH {l : Launch} {y : MethodName} {ws ws' : List Cond} {rm : Room} {Pc : Array Value → State → Prop} {Qc : Array Value → State → Outcome → State → Prop} {mc ms : Nat} {free : Addr → Prop} {cc : ByteArray} {maxL : Nat} {ret : Option FieldType} {hh : List (Nat × Nat × Nat × Nat)}
    (hy : plainName y.cls = true) (hw : ws = Cond.codeWith y cc maxL ret hh :: ws')
    (body : ∀ p e s m args below meth c s₁, BodyLoose p l y (headSpec ws rm) cc maxL ret e s m args below meth c s₁ → c.maxLocals = maxL → Pc args s →
      W p l e (headSpec ws rm).room s m args below meth c s.heap [] 0 0 (MQ below Qc args s mc ms free) (entryFrame m args maxL)) : Met l y ws rm Pc Qc mc ms free := by
  refine MetFree.of_bodyS (code := cc) (maxLocals := maxL) (ret := ret) hy ?_ ?_
  · intro args s m h hn
    obtain ⟨m9, meth, c, hn9, h1, h2, h3, h4, -, h5, h6, -⟩ := Cond.codeWith_spec (atoms_spec (ws := ws) h _ (by rw [hw]; exact List.mem_cons_self))
    cases hn.symm.trans hn9
    exact ⟨meth, c, h1, h2, h3, h4, h5, h6⟩
  · intro p e s m args below meth c s₁ B hml hP _
    have hh0 : s₁.heap = s.heap := by rw [B.state]; rfl
    obtain ⟨t, a1, o, b1, b2, b3⟩ := body p e s m args below meth c s₁ B hml hP s₁ hh0 (Stand.of_body B)
    exact ⟨t, o, a1, b1, b2, ⟨b3.1, b3.2⟩⟩

set_option maxHeartbeats 4000000 in
set_option maxRecDepth 100000 in
theorem kL_isFollow_ok {S : Type} (l : Launch) (D : va_G) (cy : Nat → ClassId) (sz e0 mi : Nat) (vo : Nat) (a0 : Int32) (a1 : Int32) (Ww Wc Wr : va_W) (k0 : Nat) (fs : List Value) (hk0 : Ww[k0]? = some (vo, .inr (5, fs))) (hpw : Ww.Perm (wJ Wc Wr)) (W1 : S → va_W) (post : S → Prop) {rm : Room} {mc ms : Nat} (hrm : rm.cells = mc ∧ rm.slots = ms ∧ rm.frames ≤ 12 ∧ rm.locals ≤ 314 ∧ mc ≤ 12 ∧ ms ≤ 12351) (hM : ∀ sz : Nat, Met l yX4_follow wsX4_follow rm (vh_P D cy e0 mi [.ref vo, .int a0, .int a1] sz Wc) (vg_Qv (S := S) D sz Wc post W1) mc ms (va_A Wc sz)) : Met l yL_isFollow wsL_isFollow ({ frames := 13, cells := 12, slots := 12351, locals := 345 }) (vh_P D cy e0 mi [.ref vo, .int a0, .int a1] sz Ww) (vg_Qi (S := S) D sz Ww (fun r u => r = 1 ∧ post u) (fun u => wJ (W1 u) Wr)) 12 12351 (va_A Ww sz) := by
  refine vw_ofWH (cc := cL_isFollow) (maxL := 4) (ret := (some .boolean)) (hh := [(0, 6, 9, 25)]) (by decide) rfl ?_
  intro p e s m args below meth c s₁ BB hml hv
  obtain ⟨rfl, hsz, hP, hE, hD0, hF, hZ⟩ := hv
  have hx := BB.exec
  have hb := BB.bytes
  have hr := BB.returns
  have hts := atoms_spec (ws := wsL_isFollow) BB.pre
  have hown : s.vm.findClass RL = some m.cls := findClass_of_methodNamed BB.named
  have hlocks := BB.notSynchronized
  subst hsz
  have hD := hD0.self (sz := s.heap.size)
  have hA : ∀ q : Nat, s.heap.size ≤ q → (va_A Ww s.heap.size) q := fun q h => Or.inr h
  have hS : va_S (va_A Ww s.heap.size) s.heap s.heap [] := va_S.rf
  obtain ⟨A0, hA0⟩ : ∃ A0 : Nat → Prop, A0 = va_A Ww s.heap.size := ⟨_, rfl⟩
  rw [← hA0]
  rw [← hA0] at hD hA hS hZ
  have hl := lv_entry ([.ref vo, .int a0, .int a1]) (n := 4) (Nat.le_of_ble_eq_true rfl)
  rw [lg_entry_eq]
  generalize (lg_sl ([.ref vo, .int a0, .int a1]) ++ List.replicate (4 - (lg_sl ([.ref vo, .int a0, .int a1])).length) Slot.unset).toArray = ls at hl ⊢
  have hl : lv_has ls 4 [(0, .ref vo), (1, .int a0), (2, .int a1)] := hl
  refine lv_aload_n hx hb dL_isFollow_0 rfl (lv_at hl 0 rfl) ?_
  refine lv_iload_n hx hb dL_isFollow_1 rfl (lv_at hl 1 rfl) ?_
  refine lv_iload_n hx hb dL_isFollow_2 rfl (lv_at hl 2 rfl) ?_
  refine vj_callv (va_runV (As := [.int a0, .int a1]) (rest := []) ⟨hx, hb, hml, hown, hts⟩ (hM s.heap.size) (cwV 2 hts gL_isFollow_X4_follow rfl hrm.1 hrm.2.1 (by decide +kernel) ⟨by show rm.frames + 1 ≤ 13; omega, by show 8 + (4 + 11) + rm.locals ≤ 345; omega⟩) (vh_P.preV hE hF hZ hS (vj_free (vd_perm hpw hD) hS hA) hP k0 hk0 rfl (vp_app.mp (vp_perm hP hpw)).1 (vd_app.mp (vd_perm hpw hD)).1) rfl rfl hl.1 rfl (lv_room (Nat.le_of_ble_eq_true rfl)) dL_isFollow_3 ⟨by show 0 + mc ≤ 12; omega, by show 0 + ms ≤ 12351; omega⟩) hP hD hS hA hpw (fun u H locs hu hP hD hS => ?_)
  refine lv_goto (tgt := 12) hx hb dL_isFollow_6 (by decide) ?_
  refine lv_iconst (v := 1) hx hb dL_isFollow_12 (by decide) ?_
  subst hA0
  refine W.widen (k := 12) (n := 12351) (by omega) (by omega) ?_
  exact W.zret (v := 1) (ty := .boolean) hx hb hr rfl (fun t ht hW => ⟨⟨1, u, rfl, ⟨rfl, hu⟩, (by rw [ht]; exact hP), hD⟩, hS.F ht⟩) hS.2.2 dL_isFollow_13

set_option maxHeartbeats 4000000 in
set_option maxRecDepth 100000 in
theorem kL_isFollow_S (l : Launch) (D : va_G) (cy : Nat → ClassId) (sz e0 mi : Nat) (vo : Nat) (a0 : Int32) (a1 : Int32) (Ww Wc Wr : va_W) (k0 : Nat) (fs : List Value) (hk0 : Ww[k0]? = some (vo, .inr (5, fs))) (hpw : Ww.Perm (wJ Wc Wr)) {rm : Room} {mc ms : Nat} (hrm : rm.cells = mc ∧ rm.slots = ms ∧ rm.frames ≤ 12 ∧ rm.locals ≤ 314 ∧ mc ≤ 12 ∧ ms ≤ 12351) (hM : ∀ sz : Nat, vx_Met l yX4_follow wsX4_follow rm (vh_P D cy e0 mi [.ref vo, .int a0, .int a1] sz Wc) (vh_N Wc sz) (vh_X D "java/lang/IllegalStateException" Wc sz) mc ms (va_A Wc sz)) : Met l yL_isFollow wsL_isFollow ({ frames := 13, cells := 12, slots := 12351, locals := 345 }) (vh_P D cy e0 mi [.ref vo, .int a0, .int a1] sz Ww) (vg_Qi (S := Unit) D sz Ww (fun r _ => r = 0) (fun _ => Ww)) 12 12351 (va_A Ww sz) := by
  refine vw_ofWH (cc := cL_isFollow) (maxL := 4) (ret := (some .boolean)) (hh := [(0, 6, 9, 25)]) (by decide) rfl ?_
  intro p e s m args below meth c s₁ BB hml hv
  obtain ⟨rfl, hsz, hP, hE, hD0, hF, hZ⟩ := hv
  have hx := BB.exec
  have hb := BB.bytes
  have hr := BB.returns
  have hts := atoms_spec (ws := wsL_isFollow) BB.pre
  have hown : s.vm.findClass RL = some m.cls := findClass_of_methodNamed BB.named
  have hlocks := BB.notSynchronized
  subst hsz
  have hD := hD0.self (sz := s.heap.size)
  have hA : ∀ q : Nat, s.heap.size ≤ q → (va_A Ww s.heap.size) q := fun q h => Or.inr h
  have hS : va_S (va_A Ww s.heap.size) s.heap s.heap [] := va_S.rf
  obtain ⟨A0, hA0⟩ : ∃ A0 : Nat → Prop, A0 = va_A Ww s.heap.size := ⟨_, rfl⟩
  rw [← hA0]
  rw [← hA0] at hD hA hS hZ
  have hl := lv_entry ([.ref vo, .int a0, .int a1]) (n := 4) (Nat.le_of_ble_eq_true rfl)
  rw [lg_entry_eq]
  generalize (lg_sl ([.ref vo, .int a0, .int a1]) ++ List.replicate (4 - (lg_sl ([.ref vo, .int a0, .int a1])).length) Slot.unset).toArray = ls at hl ⊢
  have hl : lv_has ls 4 [(0, .ref vo), (1, .int a0), (2, .int a1)] := hl
  refine lv_aload_n hx hb dL_isFollow_0 rfl (lv_at hl 0 rfl) ?_
  refine lv_iload_n hx hb dL_isFollow_1 rfl (lv_at hl 1 rfl) ?_
  refine lv_iload_n hx hb dL_isFollow_2 rfl (lv_at hl 2 rfl) ?_
  have hP8 := vp_perm hP hpw
  have hD8 := vd_perm hpw hD
  have hF8 := vj_free hD8 hS hA
  have hDc : va_D (va_A Wc s.heap.size) Wc := ((vd_app.mp hD8).1.weaken (fun _ _ _ _ => trivial) : va_D (fun _ => True) Wc).self (sz := s.heap.size)
  refine vx_callv (vx_runV (As := [.int a0, .int a1]) (rest := []) ⟨hx, hb, hml, hown, hts⟩ (hM s.heap.size) (cwV 2 hts gL_isFollow_X4_follow rfl hrm.1 hrm.2.1 (by decide +kernel) ⟨by show rm.frames + 1 ≤ 13; omega, by show 8 + (4 + 11) + rm.locals ≤ 345; omega⟩) (vh_P.preV hE hF hZ hS (vj_free (vd_perm hpw hD) hS hA) hP k0 hk0 rfl (vp_app.mp (vp_perm hP hpw)).1 (vd_app.mp (vd_perm hpw hD)).1) rfl rfl hl.1 rfl (lv_room (Nat.le_of_ble_eq_true rfl)) dL_isFollow_3 ⟨by show 0 + mc ≤ 12; omega, by show 0 + ms ≤ 12351; omega⟩) hS (fun q _ h => hF8 q h) hF8 (fun q _ h => hF8 q h) (fun E9 ce q9 u t H1 locs1 ht1 hvm _ hB hz hk hS1 hce hcv hcl => ?_) (fun u t H1 locs1 _ _ hpost => hpost.elim)
  obtain ⟨rfl, hP1⟩ := hB
  rw [ht1] at hP1
  obtain ⟨a81, a82⟩ := vj_join hP8 hD8 hk hF8 hP1 hDc
  have hP : va_P D vwCl Ww H1 := vp_perm a81 hpw.symm
  have hD : va_D A0 Ww := vd_perm hpw.symm a82
  have htab : c.exceptionTable.toList = tableOf [(0, 6, 9, 25)] := vx_table (x := yL_isFollow) BB (hts _ List.mem_cons_self)
  refine vx_catch (own := RL) (name := "java/lang/IllegalStateException") hown (tableOf []) ⟨0, 6, 9, 25⟩ (tableOf []) (by rw [htab]; rfl) (fun z hz => nomatch hz) (by decide) (by decide) (hts (.classLink RL 25 "java/lang/IllegalStateException") (by decide +kernel)) (va_Nw.use rfl (hF.2.2.2.2.2 (.castable "java/lang/IllegalStateException" "java/lang/IllegalStateException") (by decide +kernel))) hce hcv hcl ?_
  refine lv_astore_n (lv' := [(3, .ref q9), (0, .ref vo), (1, .int a0), (2, .int a1)]) hx hb dL_isFollow_9 rfl hl (by decide) rfl (fun ls hl => ?_)
  refine lv_iconst (v := 0) hx hb dL_isFollow_10 (by decide) ?_
  subst hA0
  refine W.widen (k := 12) (n := 12351) (by omega) (by omega) ?_
  exact W.zret (v := 0) (ty := .boolean) hx hb hr rfl (fun t ht hW => ⟨⟨0, (), rfl, rfl, (by rw [ht]; exact hP), hD⟩, hS1.F ht⟩) hS1.2.2 dL_isFollow_11

set_option maxHeartbeats 4000000 in
set_option maxRecDepth 100000 in
theorem kL_isAnswer_ok {S : Type} (l : Launch) (D : va_G) (cy : Nat → ClassId) (sz e0 mi : Nat) (vo : Nat) (a0 : Int32) (a1 : Int32) (a2 : Int32) (Ww Wc Wr : va_W) (k0 : Nat) (fs : List Value) (hk0 : Ww[k0]? = some (vo, .inr (5, fs))) (hpw : Ww.Perm (wJ Wc Wr)) (W1 : S → va_W) (post : S → Prop) {rm : Room} {mc ms : Nat} (hrm : rm.cells = mc ∧ rm.slots = ms ∧ rm.frames ≤ 12 ∧ rm.locals ≤ 314 ∧ mc ≤ 12 ∧ ms ≤ 12351) (hM : ∀ sz : Nat, Met l yX4_answer wsX4_answer rm (vh_P D cy e0 mi [.ref vo, .int a0, .int a1, .int a2] sz Wc) (vg_Qv (S := S) D sz Wc post W1) mc ms (va_A Wc sz)) : Met l yL_isAnswer wsL_isAnswer ({ frames := 13, cells := 12, slots := 12351, locals := 345 }) (vh_P D cy e0 mi [.ref vo, .int a0, .int a1, .int a2] sz Ww) (vg_Qi (S := S) D sz Ww (fun r u => r = 1 ∧ post u) (fun u => wJ (W1 u) Wr)) 12 12351 (va_A Ww sz) := by
  refine vw_ofWH (cc := cL_isAnswer) (maxL := 5) (ret := (some .boolean)) (hh := [(0, 7, 10, 25)]) (by decide) rfl ?_
  intro p e s m args below meth c s₁ BB hml hv
  obtain ⟨rfl, hsz, hP, hE, hD0, hF, hZ⟩ := hv
  have hx := BB.exec
  have hb := BB.bytes
  have hr := BB.returns
  have hts := atoms_spec (ws := wsL_isAnswer) BB.pre
  have hown : s.vm.findClass RL = some m.cls := findClass_of_methodNamed BB.named
  have hlocks := BB.notSynchronized
  subst hsz
  have hD := hD0.self (sz := s.heap.size)
  have hA : ∀ q : Nat, s.heap.size ≤ q → (va_A Ww s.heap.size) q := fun q h => Or.inr h
  have hS : va_S (va_A Ww s.heap.size) s.heap s.heap [] := va_S.rf
  obtain ⟨A0, hA0⟩ : ∃ A0 : Nat → Prop, A0 = va_A Ww s.heap.size := ⟨_, rfl⟩
  rw [← hA0]
  rw [← hA0] at hD hA hS hZ
  have hl := lv_entry ([.ref vo, .int a0, .int a1, .int a2]) (n := 5) (Nat.le_of_ble_eq_true rfl)
  rw [lg_entry_eq]
  generalize (lg_sl ([.ref vo, .int a0, .int a1, .int a2]) ++ List.replicate (5 - (lg_sl ([.ref vo, .int a0, .int a1, .int a2])).length) Slot.unset).toArray = ls at hl ⊢
  have hl : lv_has ls 5 [(0, .ref vo), (1, .int a0), (2, .int a1), (3, .int a2)] := hl
  refine lv_aload_n hx hb dL_isAnswer_0 rfl (lv_at hl 0 rfl) ?_
  refine lv_iload_n hx hb dL_isAnswer_1 rfl (lv_at hl 1 rfl) ?_
  refine lv_iload_n hx hb dL_isAnswer_2 rfl (lv_at hl 2 rfl) ?_
  refine lv_iload_n hx hb dL_isAnswer_3 rfl (lv_at hl 3 rfl) ?_
  refine vj_callv (va_runV (As := [.int a0, .int a1, .int a2]) (rest := []) ⟨hx, hb, hml, hown, hts⟩ (hM s.heap.size) (cwV 3 hts gL_isAnswer_X4_answer rfl hrm.1 hrm.2.1 (by decide +kernel) ⟨by show rm.frames + 1 ≤ 13; omega, by show 8 + (4 + 11) + rm.locals ≤ 345; omega⟩) (vh_P.preV hE hF hZ hS (vj_free (vd_perm hpw hD) hS hA) hP k0 hk0 rfl (vp_app.mp (vp_perm hP hpw)).1 (vd_app.mp (vd_perm hpw hD)).1) rfl rfl hl.1 rfl (lv_room (Nat.le_of_ble_eq_true rfl)) dL_isAnswer_4 ⟨by show 0 + mc ≤ 12; omega, by show 0 + ms ≤ 12351; omega⟩) hP hD hS hA hpw (fun u H locs hu hP hD hS => ?_)
  refine lv_goto (tgt := 14) hx hb dL_isAnswer_7 (by decide) ?_
  refine lv_iconst (v := 1) hx hb dL_isAnswer_14 (by decide) ?_
  subst hA0
  refine W.widen (k := 12) (n := 12351) (by omega) (by omega) ?_
  exact W.zret (v := 1) (ty := .boolean) hx hb hr rfl (fun t ht hW => ⟨⟨1, u, rfl, ⟨rfl, hu⟩, (by rw [ht]; exact hP), hD⟩, hS.F ht⟩) hS.2.2 dL_isAnswer_15

set_option maxHeartbeats 4000000 in
set_option maxRecDepth 100000 in
theorem kL_isAnswer_S (l : Launch) (D : va_G) (cy : Nat → ClassId) (sz e0 mi : Nat) (vo : Nat) (a0 : Int32) (a1 : Int32) (a2 : Int32) (Ww Wc Wr : va_W) (k0 : Nat) (fs : List Value) (hk0 : Ww[k0]? = some (vo, .inr (5, fs))) (hpw : Ww.Perm (wJ Wc Wr)) {rm : Room} {mc ms : Nat} (hrm : rm.cells = mc ∧ rm.slots = ms ∧ rm.frames ≤ 12 ∧ rm.locals ≤ 314 ∧ mc ≤ 12 ∧ ms ≤ 12351) (hM : ∀ sz : Nat, vx_Met l yX4_answer wsX4_answer rm (vh_P D cy e0 mi [.ref vo, .int a0, .int a1, .int a2] sz Wc) (vh_N Wc sz) (vh_X D "java/lang/IllegalStateException" Wc sz) mc ms (va_A Wc sz)) : Met l yL_isAnswer wsL_isAnswer ({ frames := 13, cells := 12, slots := 12351, locals := 345 }) (vh_P D cy e0 mi [.ref vo, .int a0, .int a1, .int a2] sz Ww) (vg_Qi (S := Unit) D sz Ww (fun r _ => r = 0) (fun _ => Ww)) 12 12351 (va_A Ww sz) := by
  refine vw_ofWH (cc := cL_isAnswer) (maxL := 5) (ret := (some .boolean)) (hh := [(0, 7, 10, 25)]) (by decide) rfl ?_
  intro p e s m args below meth c s₁ BB hml hv
  obtain ⟨rfl, hsz, hP, hE, hD0, hF, hZ⟩ := hv
  have hx := BB.exec
  have hb := BB.bytes
  have hr := BB.returns
  have hts := atoms_spec (ws := wsL_isAnswer) BB.pre
  have hown : s.vm.findClass RL = some m.cls := findClass_of_methodNamed BB.named
  have hlocks := BB.notSynchronized
  subst hsz
  have hD := hD0.self (sz := s.heap.size)
  have hA : ∀ q : Nat, s.heap.size ≤ q → (va_A Ww s.heap.size) q := fun q h => Or.inr h
  have hS : va_S (va_A Ww s.heap.size) s.heap s.heap [] := va_S.rf
  obtain ⟨A0, hA0⟩ : ∃ A0 : Nat → Prop, A0 = va_A Ww s.heap.size := ⟨_, rfl⟩
  rw [← hA0]
  rw [← hA0] at hD hA hS hZ
  have hl := lv_entry ([.ref vo, .int a0, .int a1, .int a2]) (n := 5) (Nat.le_of_ble_eq_true rfl)
  rw [lg_entry_eq]
  generalize (lg_sl ([.ref vo, .int a0, .int a1, .int a2]) ++ List.replicate (5 - (lg_sl ([.ref vo, .int a0, .int a1, .int a2])).length) Slot.unset).toArray = ls at hl ⊢
  have hl : lv_has ls 5 [(0, .ref vo), (1, .int a0), (2, .int a1), (3, .int a2)] := hl
  refine lv_aload_n hx hb dL_isAnswer_0 rfl (lv_at hl 0 rfl) ?_
  refine lv_iload_n hx hb dL_isAnswer_1 rfl (lv_at hl 1 rfl) ?_
  refine lv_iload_n hx hb dL_isAnswer_2 rfl (lv_at hl 2 rfl) ?_
  refine lv_iload_n hx hb dL_isAnswer_3 rfl (lv_at hl 3 rfl) ?_
  have hP8 := vp_perm hP hpw
  have hD8 := vd_perm hpw hD
  have hF8 := vj_free hD8 hS hA
  have hDc : va_D (va_A Wc s.heap.size) Wc := ((vd_app.mp hD8).1.weaken (fun _ _ _ _ => trivial) : va_D (fun _ => True) Wc).self (sz := s.heap.size)
  refine vx_callv (vx_runV (As := [.int a0, .int a1, .int a2]) (rest := []) ⟨hx, hb, hml, hown, hts⟩ (hM s.heap.size) (cwV 3 hts gL_isAnswer_X4_answer rfl hrm.1 hrm.2.1 (by decide +kernel) ⟨by show rm.frames + 1 ≤ 13; omega, by show 8 + (4 + 11) + rm.locals ≤ 345; omega⟩) (vh_P.preV hE hF hZ hS (vj_free (vd_perm hpw hD) hS hA) hP k0 hk0 rfl (vp_app.mp (vp_perm hP hpw)).1 (vd_app.mp (vd_perm hpw hD)).1) rfl rfl hl.1 rfl (lv_room (Nat.le_of_ble_eq_true rfl)) dL_isAnswer_4 ⟨by show 0 + mc ≤ 12; omega, by show 0 + ms ≤ 12351; omega⟩) hS (fun q _ h => hF8 q h) hF8 (fun q _ h => hF8 q h) (fun E9 ce q9 u t H1 locs1 ht1 hvm _ hB hz hk hS1 hce hcv hcl => ?_) (fun u t H1 locs1 _ _ hpost => hpost.elim)
  obtain ⟨rfl, hP1⟩ := hB
  rw [ht1] at hP1
  obtain ⟨a81, a82⟩ := vj_join hP8 hD8 hk hF8 hP1 hDc
  have hP : va_P D vwCl Ww H1 := vp_perm a81 hpw.symm
  have hD : va_D A0 Ww := vd_perm hpw.symm a82
  have htab : c.exceptionTable.toList = tableOf [(0, 7, 10, 25)] := vx_table (x := yL_isAnswer) BB (hts _ List.mem_cons_self)
  refine vx_catch (own := RL) (name := "java/lang/IllegalStateException") hown (tableOf []) ⟨0, 7, 10, 25⟩ (tableOf []) (by rw [htab]; rfl) (fun z hz => nomatch hz) (by decide) (by decide) (hts (.classLink RL 25 "java/lang/IllegalStateException") (by decide +kernel)) (va_Nw.use rfl (hF.2.2.2.2.2 (.castable "java/lang/IllegalStateException" "java/lang/IllegalStateException") (by decide +kernel))) hce hcv hcl ?_
  refine lv_astore (lv' := [(4, .ref q9), (0, .ref vo), (1, .int a0), (2, .int a1), (3, .int a2)]) hx hb dL_isAnswer_10 hl (by decide) rfl (fun ls hl => ?_)
  refine lv_iconst (v := 0) hx hb dL_isAnswer_12 (by decide) ?_
  subst hA0
  refine W.widen (k := 12) (n := 12351) (by omega) (by omega) ?_
  exact W.zret (v := 0) (ty := .boolean) hx hb hr rfl (fun t ht hW => ⟨⟨0, (), rfl, rfl, (by rw [ht]; exact hP), hD⟩, hS1.F ht⟩) hS1.2.2 dL_isAnswer_13

set_option maxHeartbeats 4000000 in
set_option maxRecDepth 100000 in
theorem kL_isLeave_ok {S : Type} (l : Launch) (D : va_G) (cy : Nat → ClassId) (sz e0 mi : Nat) (vo : Nat) (a0 : Int32) (a1 : Int32) (Ww Wc Wr : va_W) (k0 : Nat) (fs : List Value) (hk0 : Ww[k0]? = some (vo, .inr (5, fs))) (hpw : Ww.Perm (wJ Wc Wr)) (W1 : S → va_W) (post : S → Prop) {rm : Room} {mc ms : Nat} (hrm : rm.cells = mc ∧ rm.slots = ms ∧ rm.frames ≤ 12 ∧ rm.locals ≤ 314 ∧ mc ≤ 12 ∧ ms ≤ 12351) (hM : ∀ sz : Nat, Met l yX4_leave wsX4_leave rm (vh_P D cy e0 mi [.ref vo, .int a0, .int a1] sz Wc) (vg_Qv (S := S) D sz Wc post W1) mc ms (va_A Wc sz)) : Met l yL_isLeave wsL_isLeave ({ frames := 13, cells := 12, slots := 12351, locals := 345 }) (vh_P D cy e0 mi [.ref vo, .int a0, .int a1] sz Ww) (vg_Qi (S := S) D sz Ww (fun r u => r = 1 ∧ post u) (fun u => wJ (W1 u) Wr)) 12 12351 (va_A Ww sz) := by
  refine vw_ofWH (cc := cL_isLeave) (maxL := 4) (ret := (some .boolean)) (hh := [(0, 6, 9, 25)]) (by decide) rfl ?_
  intro p e s m args below meth c s₁ BB hml hv
  obtain ⟨rfl, hsz, hP, hE, hD0, hF, hZ⟩ := hv
  have hx := BB.exec
  have hb := BB.bytes
  have hr := BB.returns
  have hts := atoms_spec (ws := wsL_isLeave) BB.pre
  have hown : s.vm.findClass RL = some m.cls := findClass_of_methodNamed BB.named
  have hlocks := BB.notSynchronized
  subst hsz
  have hD := hD0.self (sz := s.heap.size)
  have hA : ∀ q : Nat, s.heap.size ≤ q → (va_A Ww s.heap.size) q := fun q h => Or.inr h
  have hS : va_S (va_A Ww s.heap.size) s.heap s.heap [] := va_S.rf
  obtain ⟨A0, hA0⟩ : ∃ A0 : Nat → Prop, A0 = va_A Ww s.heap.size := ⟨_, rfl⟩
  rw [← hA0]
  rw [← hA0] at hD hA hS hZ
  have hl := lv_entry ([.ref vo, .int a0, .int a1]) (n := 4) (Nat.le_of_ble_eq_true rfl)
  rw [lg_entry_eq]
  generalize (lg_sl ([.ref vo, .int a0, .int a1]) ++ List.replicate (4 - (lg_sl ([.ref vo, .int a0, .int a1])).length) Slot.unset).toArray = ls at hl ⊢
  have hl : lv_has ls 4 [(0, .ref vo), (1, .int a0), (2, .int a1)] := hl
  refine lv_aload_n hx hb dL_isLeave_0 rfl (lv_at hl 0 rfl) ?_
  refine lv_iload_n hx hb dL_isLeave_1 rfl (lv_at hl 1 rfl) ?_
  refine lv_iload_n hx hb dL_isLeave_2 rfl (lv_at hl 2 rfl) ?_
  refine vj_callv (va_runV (As := [.int a0, .int a1]) (rest := []) ⟨hx, hb, hml, hown, hts⟩ (hM s.heap.size) (cwV 2 hts gL_isLeave_X4_leave rfl hrm.1 hrm.2.1 (by decide +kernel) ⟨by show rm.frames + 1 ≤ 13; omega, by show 8 + (4 + 11) + rm.locals ≤ 345; omega⟩) (vh_P.preV hE hF hZ hS (vj_free (vd_perm hpw hD) hS hA) hP k0 hk0 rfl (vp_app.mp (vp_perm hP hpw)).1 (vd_app.mp (vd_perm hpw hD)).1) rfl rfl hl.1 rfl (lv_room (Nat.le_of_ble_eq_true rfl)) dL_isLeave_3 ⟨by show 0 + mc ≤ 12; omega, by show 0 + ms ≤ 12351; omega⟩) hP hD hS hA hpw (fun u H locs hu hP hD hS => ?_)
  refine lv_goto (tgt := 12) hx hb dL_isLeave_6 (by decide) ?_
  refine lv_iconst (v := 1) hx hb dL_isLeave_12 (by decide) ?_
  subst hA0
  refine W.widen (k := 12) (n := 12351) (by omega) (by omega) ?_
  exact W.zret (v := 1) (ty := .boolean) hx hb hr rfl (fun t ht hW => ⟨⟨1, u, rfl, ⟨rfl, hu⟩, (by rw [ht]; exact hP), hD⟩, hS.F ht⟩) hS.2.2 dL_isLeave_13

set_option maxHeartbeats 4000000 in
set_option maxRecDepth 100000 in
theorem kL_isLeave_S (l : Launch) (D : va_G) (cy : Nat → ClassId) (sz e0 mi : Nat) (vo : Nat) (a0 : Int32) (a1 : Int32) (Ww Wc Wr : va_W) (k0 : Nat) (fs : List Value) (hk0 : Ww[k0]? = some (vo, .inr (5, fs))) (hpw : Ww.Perm (wJ Wc Wr)) {rm : Room} {mc ms : Nat} (hrm : rm.cells = mc ∧ rm.slots = ms ∧ rm.frames ≤ 12 ∧ rm.locals ≤ 314 ∧ mc ≤ 12 ∧ ms ≤ 12351) (hM : ∀ sz : Nat, vx_Met l yX4_leave wsX4_leave rm (vh_P D cy e0 mi [.ref vo, .int a0, .int a1] sz Wc) (vh_N Wc sz) (vh_X D "java/lang/IllegalStateException" Wc sz) mc ms (va_A Wc sz)) : Met l yL_isLeave wsL_isLeave ({ frames := 13, cells := 12, slots := 12351, locals := 345 }) (vh_P D cy e0 mi [.ref vo, .int a0, .int a1] sz Ww) (vg_Qi (S := Unit) D sz Ww (fun r _ => r = 0) (fun _ => Ww)) 12 12351 (va_A Ww sz) := by
  refine vw_ofWH (cc := cL_isLeave) (maxL := 4) (ret := (some .boolean)) (hh := [(0, 6, 9, 25)]) (by decide) rfl ?_
  intro p e s m args below meth c s₁ BB hml hv
  obtain ⟨rfl, hsz, hP, hE, hD0, hF, hZ⟩ := hv
  have hx := BB.exec
  have hb := BB.bytes
  have hr := BB.returns
  have hts := atoms_spec (ws := wsL_isLeave) BB.pre
  have hown : s.vm.findClass RL = some m.cls := findClass_of_methodNamed BB.named
  have hlocks := BB.notSynchronized
  subst hsz
  have hD := hD0.self (sz := s.heap.size)
  have hA : ∀ q : Nat, s.heap.size ≤ q → (va_A Ww s.heap.size) q := fun q h => Or.inr h
  have hS : va_S (va_A Ww s.heap.size) s.heap s.heap [] := va_S.rf
  obtain ⟨A0, hA0⟩ : ∃ A0 : Nat → Prop, A0 = va_A Ww s.heap.size := ⟨_, rfl⟩
  rw [← hA0]
  rw [← hA0] at hD hA hS hZ
  have hl := lv_entry ([.ref vo, .int a0, .int a1]) (n := 4) (Nat.le_of_ble_eq_true rfl)
  rw [lg_entry_eq]
  generalize (lg_sl ([.ref vo, .int a0, .int a1]) ++ List.replicate (4 - (lg_sl ([.ref vo, .int a0, .int a1])).length) Slot.unset).toArray = ls at hl ⊢
  have hl : lv_has ls 4 [(0, .ref vo), (1, .int a0), (2, .int a1)] := hl
  refine lv_aload_n hx hb dL_isLeave_0 rfl (lv_at hl 0 rfl) ?_
  refine lv_iload_n hx hb dL_isLeave_1 rfl (lv_at hl 1 rfl) ?_
  refine lv_iload_n hx hb dL_isLeave_2 rfl (lv_at hl 2 rfl) ?_
  have hP8 := vp_perm hP hpw
  have hD8 := vd_perm hpw hD
  have hF8 := vj_free hD8 hS hA
  have hDc : va_D (va_A Wc s.heap.size) Wc := ((vd_app.mp hD8).1.weaken (fun _ _ _ _ => trivial) : va_D (fun _ => True) Wc).self (sz := s.heap.size)
  refine vx_callv (vx_runV (As := [.int a0, .int a1]) (rest := []) ⟨hx, hb, hml, hown, hts⟩ (hM s.heap.size) (cwV 2 hts gL_isLeave_X4_leave rfl hrm.1 hrm.2.1 (by decide +kernel) ⟨by show rm.frames + 1 ≤ 13; omega, by show 8 + (4 + 11) + rm.locals ≤ 345; omega⟩) (vh_P.preV hE hF hZ hS (vj_free (vd_perm hpw hD) hS hA) hP k0 hk0 rfl (vp_app.mp (vp_perm hP hpw)).1 (vd_app.mp (vd_perm hpw hD)).1) rfl rfl hl.1 rfl (lv_room (Nat.le_of_ble_eq_true rfl)) dL_isLeave_3 ⟨by show 0 + mc ≤ 12; omega, by show 0 + ms ≤ 12351; omega⟩) hS (fun q _ h => hF8 q h) hF8 (fun q _ h => hF8 q h) (fun E9 ce q9 u t H1 locs1 ht1 hvm _ hB hz hk hS1 hce hcv hcl => ?_) (fun u t H1 locs1 _ _ hpost => hpost.elim)
  obtain ⟨rfl, hP1⟩ := hB
  rw [ht1] at hP1
  obtain ⟨a81, a82⟩ := vj_join hP8 hD8 hk hF8 hP1 hDc
  have hP : va_P D vwCl Ww H1 := vp_perm a81 hpw.symm
  have hD : va_D A0 Ww := vd_perm hpw.symm a82
  have htab : c.exceptionTable.toList = tableOf [(0, 6, 9, 25)] := vx_table (x := yL_isLeave) BB (hts _ List.mem_cons_self)
  refine vx_catch (own := RL) (name := "java/lang/IllegalStateException") hown (tableOf []) ⟨0, 6, 9, 25⟩ (tableOf []) (by rw [htab]; rfl) (fun z hz => nomatch hz) (by decide) (by decide) (hts (.classLink RL 25 "java/lang/IllegalStateException") (by decide +kernel)) (va_Nw.use rfl (hF.2.2.2.2.2 (.castable "java/lang/IllegalStateException" "java/lang/IllegalStateException") (by decide +kernel))) hce hcv hcl ?_
  refine lv_astore_n (lv' := [(3, .ref q9), (0, .ref vo), (1, .int a0), (2, .int a1)]) hx hb dL_isLeave_9 rfl hl (by decide) rfl (fun ls hl => ?_)
  refine lv_iconst (v := 0) hx hb dL_isLeave_10 (by decide) ?_
  subst hA0
  refine W.widen (k := 12) (n := 12351) (by omega) (by omega) ?_
  exact W.zret (v := 0) (ty := .boolean) hx hb hr rfl (fun t ht hW => ⟨⟨0, (), rfl, rfl, (by rw [ht]; exact hP), hD⟩, hS1.F ht⟩) hS1.2.2 dL_isLeave_11

set_option maxHeartbeats 4000000 in
set_option maxRecDepth 100000 in
theorem kL_isMove_ok {S : Type} (l : Launch) (D : va_G) (cy : Nat → ClassId) (sz e0 mi : Nat) (vo : Nat) (a0 : Int32) (a1 : Int32) (Ww Wc Wr : va_W) (k0 : Nat) (fs : List Value) (hk0 : Ww[k0]? = some (vo, .inr (5, fs))) (hpw : Ww.Perm (wJ Wc Wr)) (W1 : S → va_W) (post : Int32 → S → Prop) {rm : Room} {mc ms : Nat} (hrm : rm.cells = mc ∧ rm.slots = ms ∧ rm.frames ≤ 12 ∧ rm.locals ≤ 314 ∧ mc ≤ 12 ∧ ms ≤ 12351) (hpos : ∀ r u, post r u → ¬ r < 0) (hM : ∀ sz : Nat, Met l yX4_move wsX4_move rm (vh_P D cy e0 mi [.ref vo, .int a0, .int a1] sz Wc) (vg_Qi (S := S) D sz Wc post W1) mc ms (va_A Wc sz)) : Met l yL_isMove wsL_isMove ({ frames := 13, cells := 12, slots := 12351, locals := 345 }) (vh_P D cy e0 mi [.ref vo, .int a0, .int a1] sz Ww) (vg_Qi (S := S) D sz Ww (fun r u => r = 1 ∧ ∃ v, post v u) (fun u => wJ (W1 u) Wr)) 12 12351 (va_A Ww sz) := by
  refine vw_ofWH (cc := cL_isMove) (maxL := 4) (ret := (some .boolean)) (hh := [(0, 14, 15, 25)]) (by decide) rfl ?_
  intro p e s m args below meth c s₁ BB hml hv
  obtain ⟨rfl, hsz, hP, hE, hD0, hF, hZ⟩ := hv
  have hx := BB.exec
  have hb := BB.bytes
  have hr := BB.returns
  have hts := atoms_spec (ws := wsL_isMove) BB.pre
  have hown : s.vm.findClass RL = some m.cls := findClass_of_methodNamed BB.named
  have hlocks := BB.notSynchronized
  subst hsz
  have hD := hD0.self (sz := s.heap.size)
  have hA : ∀ q : Nat, s.heap.size ≤ q → (va_A Ww s.heap.size) q := fun q h => Or.inr h
  have hS : va_S (va_A Ww s.heap.size) s.heap s.heap [] := va_S.rf
  obtain ⟨A0, hA0⟩ : ∃ A0 : Nat → Prop, A0 = va_A Ww s.heap.size := ⟨_, rfl⟩
  rw [← hA0]
  rw [← hA0] at hD hA hS hZ
  have hl := lv_entry ([.ref vo, .int a0, .int a1]) (n := 4) (Nat.le_of_ble_eq_true rfl)
  rw [lg_entry_eq]
  generalize (lg_sl ([.ref vo, .int a0, .int a1]) ++ List.replicate (4 - (lg_sl ([.ref vo, .int a0, .int a1])).length) Slot.unset).toArray = ls at hl ⊢
  have hl : lv_has ls 4 [(0, .ref vo), (1, .int a0), (2, .int a1)] := hl
  refine lv_aload_n hx hb dL_isMove_0 rfl (lv_at hl 0 rfl) ?_
  refine lv_iload_n hx hb dL_isMove_1 rfl (lv_at hl 1 rfl) ?_
  refine lv_iload_n hx hb dL_isMove_2 rfl (lv_at hl 2 rfl) ?_
  refine vj_calli (va_runV (As := [.int a0, .int a1]) (rest := []) ⟨hx, hb, hml, hown, hts⟩ (hM s.heap.size) (cwV 2 hts gL_isMove_X4_move rfl hrm.1 hrm.2.1 (by decide +kernel) ⟨by show rm.frames + 1 ≤ 13; omega, by show 8 + (5 + 11) + rm.locals ≤ 345; omega⟩) (vh_P.preV hE hF hZ hS (vj_free (vd_perm hpw hD) hS hA) hP k0 hk0 rfl (vp_app.mp (vp_perm hP hpw)).1 (vd_app.mp (vd_perm hpw hD)).1) rfl rfl hl.1 rfl (lv_room (Nat.le_of_ble_eq_true rfl)) dL_isMove_3 ⟨by show 0 + mc ≤ 12; omega, by show 0 + ms ≤ 12351; omega⟩) hP hD hS hA hpw (fun r u H locs hu hP hD hS => ?_)
  refine lv_if_lt (tgt := 13) hx hb dL_isMove_6 (by decide) (fun z => absurd z (hpos r u hu)) (fun _ => ?_)
  refine lv_iconst (v := 1) hx hb dL_isMove_9 (by decide) ?_
  refine lv_goto (tgt := 14) hx hb dL_isMove_10 (by decide) ?_
  subst hA0
  refine W.widen (k := 12) (n := 12351) (by omega) (by omega) ?_
  exact W.zret (v := 1) (ty := .boolean) hx hb hr rfl (fun t ht hW => ⟨⟨1, u, rfl, ⟨rfl, r, hu⟩, (by rw [ht]; exact hP), hD⟩, hS.F ht⟩) hS.2.2 dL_isMove_14

set_option maxHeartbeats 4000000 in
set_option maxRecDepth 100000 in
theorem kL_isMove_S (l : Launch) (D : va_G) (cy : Nat → ClassId) (sz e0 mi : Nat) (vo : Nat) (a0 : Int32) (a1 : Int32) (Ww Wc Wr : va_W) (k0 : Nat) (fs : List Value) (hk0 : Ww[k0]? = some (vo, .inr (5, fs))) (hpw : Ww.Perm (wJ Wc Wr)) {rm : Room} {mc ms : Nat} (hrm : rm.cells = mc ∧ rm.slots = ms ∧ rm.frames ≤ 12 ∧ rm.locals ≤ 314 ∧ mc ≤ 12 ∧ ms ≤ 12351) (hM : ∀ sz : Nat, vx_Met l yX4_move wsX4_move rm (vh_P D cy e0 mi [.ref vo, .int a0, .int a1] sz Wc) (vh_N Wc sz) (vh_X D "java/lang/IllegalStateException" Wc sz) mc ms (va_A Wc sz)) : Met l yL_isMove wsL_isMove ({ frames := 13, cells := 12, slots := 12351, locals := 345 }) (vh_P D cy e0 mi [.ref vo, .int a0, .int a1] sz Ww) (vg_Qi (S := Unit) D sz Ww (fun r _ => r = 0) (fun _ => Ww)) 12 12351 (va_A Ww sz) := by
  refine vw_ofWH (cc := cL_isMove) (maxL := 4) (ret := (some .boolean)) (hh := [(0, 14, 15, 25)]) (by decide) rfl ?_
  intro p e s m args below meth c s₁ BB hml hv
  obtain ⟨rfl, hsz, hP, hE, hD0, hF, hZ⟩ := hv
  have hx := BB.exec
  have hb := BB.bytes
  have hr := BB.returns
  have hts := atoms_spec (ws := wsL_isMove) BB.pre
  have hown : s.vm.findClass RL = some m.cls := findClass_of_methodNamed BB.named
  have hlocks := BB.notSynchronized
  subst hsz
  have hD := hD0.self (sz := s.heap.size)
  have hA : ∀ q : Nat, s.heap.size ≤ q → (va_A Ww s.heap.size) q := fun q h => Or.inr h
  have hS : va_S (va_A Ww s.heap.size) s.heap s.heap [] := va_S.rf
  obtain ⟨A0, hA0⟩ : ∃ A0 : Nat → Prop, A0 = va_A Ww s.heap.size := ⟨_, rfl⟩
  rw [← hA0]
  rw [← hA0] at hD hA hS hZ
  have hl := lv_entry ([.ref vo, .int a0, .int a1]) (n := 4) (Nat.le_of_ble_eq_true rfl)
  rw [lg_entry_eq]
  generalize (lg_sl ([.ref vo, .int a0, .int a1]) ++ List.replicate (4 - (lg_sl ([.ref vo, .int a0, .int a1])).length) Slot.unset).toArray = ls at hl ⊢
  have hl : lv_has ls 4 [(0, .ref vo), (1, .int a0), (2, .int a1)] := hl
  refine lv_aload_n hx hb dL_isMove_0 rfl (lv_at hl 0 rfl) ?_
  refine lv_iload_n hx hb dL_isMove_1 rfl (lv_at hl 1 rfl) ?_
  refine lv_iload_n hx hb dL_isMove_2 rfl (lv_at hl 2 rfl) ?_
  have hP8 := vp_perm hP hpw
  have hD8 := vd_perm hpw hD
  have hF8 := vj_free hD8 hS hA
  have hDc : va_D (va_A Wc s.heap.size) Wc := ((vd_app.mp hD8).1.weaken (fun _ _ _ _ => trivial) : va_D (fun _ => True) Wc).self (sz := s.heap.size)
  refine vx_callv (vx_runV (As := [.int a0, .int a1]) (rest := []) ⟨hx, hb, hml, hown, hts⟩ (hM s.heap.size) (cwV 2 hts gL_isMove_X4_move rfl hrm.1 hrm.2.1 (by decide +kernel) ⟨by show rm.frames + 1 ≤ 13; omega, by show 8 + (5 + 11) + rm.locals ≤ 345; omega⟩) (vh_P.preV hE hF hZ hS (vj_free (vd_perm hpw hD) hS hA) hP k0 hk0 rfl (vp_app.mp (vp_perm hP hpw)).1 (vd_app.mp (vd_perm hpw hD)).1) rfl rfl hl.1 rfl (lv_room (Nat.le_of_ble_eq_true rfl)) dL_isMove_3 ⟨by show 0 + mc ≤ 12; omega, by show 0 + ms ≤ 12351; omega⟩) hS (fun q _ h => hF8 q h) hF8 (fun q _ h => hF8 q h) (fun E9 ce q9 u t H1 locs1 ht1 hvm _ hB hz hk hS1 hce hcv hcl => ?_) (fun u t H1 locs1 _ _ hpost => hpost.elim)
  obtain ⟨rfl, hP1⟩ := hB
  rw [ht1] at hP1
  obtain ⟨a81, a82⟩ := vj_join hP8 hD8 hk hF8 hP1 hDc
  have hP : va_P D vwCl Ww H1 := vp_perm a81 hpw.symm
  have hD : va_D A0 Ww := vd_perm hpw.symm a82
  have htab : c.exceptionTable.toList = tableOf [(0, 14, 15, 25)] := vx_table (x := yL_isMove) BB (hts _ List.mem_cons_self)
  refine vx_catch (own := RL) (name := "java/lang/IllegalStateException") hown (tableOf []) ⟨0, 14, 15, 25⟩ (tableOf []) (by rw [htab]; rfl) (fun z hz => nomatch hz) (by decide) (by decide) (hts (.classLink RL 25 "java/lang/IllegalStateException") (by decide +kernel)) (va_Nw.use rfl (hF.2.2.2.2.2 (.castable "java/lang/IllegalStateException" "java/lang/IllegalStateException") (by decide +kernel))) hce hcv hcl ?_
  refine lv_astore_n (lv' := [(3, .ref q9), (0, .ref vo), (1, .int a0), (2, .int a1)]) hx hb dL_isMove_15 rfl hl (by decide) rfl (fun ls hl => ?_)
  refine lv_iconst (v := 0) hx hb dL_isMove_16 (by decide) ?_
  subst hA0
  refine W.widen (k := 12) (n := 12351) (by omega) (by omega) ?_
  exact W.zret (v := 0) (ty := .boolean) hx hb hr rfl (fun t ht hW => ⟨⟨0, (), rfl, rfl, (by rw [ht]; exact hP), hD⟩, hS1.F ht⟩) hS1.2.2 dL_isMove_17

set_option maxHeartbeats 4000000 in
set_option maxRecDepth 100000 in
theorem kL_isBoost_ok {S : Type} (l : Launch) (D : va_G) (cy : Nat → ClassId) (sz e0 mi : Nat) (vo : Nat) (a0 : Int32) (a1 : Int32) (Ww Wc Wr : va_W) (k0 : Nat) (fs : List Value) (hk0 : Ww[k0]? = some (vo, .inr (5, fs))) (hpw : Ww.Perm (wJ Wc Wr)) (W1 : S → va_W) (post : S → Prop) {rm : Room} {mc ms : Nat} (hrm : rm.cells = mc ∧ rm.slots = ms ∧ rm.frames ≤ 12 ∧ rm.locals ≤ 314 ∧ mc ≤ 12 ∧ ms ≤ 12351) (hM : ∀ sz : Nat, Met l yX4_boost wsX4_boost rm (vh_P D cy e0 mi [.ref vo, .int a0, .int a1] sz Wc) (vg_Qv (S := S) D sz Wc post W1) mc ms (va_A Wc sz)) : Met l yL_isBoost wsL_isBoost ({ frames := 13, cells := 12, slots := 12351, locals := 345 }) (vh_P D cy e0 mi [.ref vo, .int a0, .int a1] sz Ww) (vg_Qi (S := S) D sz Ww (fun r u => r = 1 ∧ post u) (fun u => wJ (W1 u) Wr)) 12 12351 (va_A Ww sz) := by
  refine vw_ofWH (cc := cL_isBoost) (maxL := 4) (ret := (some .boolean)) (hh := [(0, 6, 9, 25)]) (by decide) rfl ?_
  intro p e s m args below meth c s₁ BB hml hv
  obtain ⟨rfl, hsz, hP, hE, hD0, hF, hZ⟩ := hv
  have hx := BB.exec
  have hb := BB.bytes
  have hr := BB.returns
  have hts := atoms_spec (ws := wsL_isBoost) BB.pre
  have hown : s.vm.findClass RL = some m.cls := findClass_of_methodNamed BB.named
  have hlocks := BB.notSynchronized
  subst hsz
  have hD := hD0.self (sz := s.heap.size)
  have hA : ∀ q : Nat, s.heap.size ≤ q → (va_A Ww s.heap.size) q := fun q h => Or.inr h
  have hS : va_S (va_A Ww s.heap.size) s.heap s.heap [] := va_S.rf
  obtain ⟨A0, hA0⟩ : ∃ A0 : Nat → Prop, A0 = va_A Ww s.heap.size := ⟨_, rfl⟩
  rw [← hA0]
  rw [← hA0] at hD hA hS hZ
  have hl := lv_entry ([.ref vo, .int a0, .int a1]) (n := 4) (Nat.le_of_ble_eq_true rfl)
  rw [lg_entry_eq]
  generalize (lg_sl ([.ref vo, .int a0, .int a1]) ++ List.replicate (4 - (lg_sl ([.ref vo, .int a0, .int a1])).length) Slot.unset).toArray = ls at hl ⊢
  have hl : lv_has ls 4 [(0, .ref vo), (1, .int a0), (2, .int a1)] := hl
  refine lv_aload_n hx hb dL_isBoost_0 rfl (lv_at hl 0 rfl) ?_
  refine lv_iload_n hx hb dL_isBoost_1 rfl (lv_at hl 1 rfl) ?_
  refine lv_iload_n hx hb dL_isBoost_2 rfl (lv_at hl 2 rfl) ?_
  refine vj_callv (va_runV (As := [.int a0, .int a1]) (rest := []) ⟨hx, hb, hml, hown, hts⟩ (hM s.heap.size) (cwV 2 hts gL_isBoost_X4_boost rfl hrm.1 hrm.2.1 (by decide +kernel) ⟨by show rm.frames + 1 ≤ 13; omega, by show 8 + (6 + 11) + rm.locals ≤ 345; omega⟩) (vh_P.preV hE hF hZ hS (vj_free (vd_perm hpw hD) hS hA) hP k0 hk0 rfl (vp_app.mp (vp_perm hP hpw)).1 (vd_app.mp (vd_perm hpw hD)).1) rfl rfl hl.1 rfl (lv_room (Nat.le_of_ble_eq_true rfl)) dL_isBoost_3 ⟨by show 0 + mc ≤ 12; omega, by show 0 + ms ≤ 12351; omega⟩) hP hD hS hA hpw (fun u H locs hu hP hD hS => ?_)
  refine lv_goto (tgt := 12) hx hb dL_isBoost_6 (by decide) ?_
  refine lv_iconst (v := 1) hx hb dL_isBoost_12 (by decide) ?_
  subst hA0
  refine W.widen (k := 12) (n := 12351) (by omega) (by omega) ?_
  exact W.zret (v := 1) (ty := .boolean) hx hb hr rfl (fun t ht hW => ⟨⟨1, u, rfl, ⟨rfl, hu⟩, (by rw [ht]; exact hP), hD⟩, hS.F ht⟩) hS.2.2 dL_isBoost_13

set_option maxHeartbeats 4000000 in
set_option maxRecDepth 100000 in
theorem kL_isBoost_S (l : Launch) (D : va_G) (cy : Nat → ClassId) (sz e0 mi : Nat) (vo : Nat) (a0 : Int32) (a1 : Int32) (Ww Wc Wr : va_W) (k0 : Nat) (fs : List Value) (hk0 : Ww[k0]? = some (vo, .inr (5, fs))) (hpw : Ww.Perm (wJ Wc Wr)) {rm : Room} {mc ms : Nat} (hrm : rm.cells = mc ∧ rm.slots = ms ∧ rm.frames ≤ 12 ∧ rm.locals ≤ 314 ∧ mc ≤ 12 ∧ ms ≤ 12351) (hM : ∀ sz : Nat, vx_Met l yX4_boost wsX4_boost rm (vh_P D cy e0 mi [.ref vo, .int a0, .int a1] sz Wc) (vh_N Wc sz) (vh_X D "java/lang/IllegalStateException" Wc sz) mc ms (va_A Wc sz)) : Met l yL_isBoost wsL_isBoost ({ frames := 13, cells := 12, slots := 12351, locals := 345 }) (vh_P D cy e0 mi [.ref vo, .int a0, .int a1] sz Ww) (vg_Qi (S := Unit) D sz Ww (fun r _ => r = 0) (fun _ => Ww)) 12 12351 (va_A Ww sz) := by
  refine vw_ofWH (cc := cL_isBoost) (maxL := 4) (ret := (some .boolean)) (hh := [(0, 6, 9, 25)]) (by decide) rfl ?_
  intro p e s m args below meth c s₁ BB hml hv
  obtain ⟨rfl, hsz, hP, hE, hD0, hF, hZ⟩ := hv
  have hx := BB.exec
  have hb := BB.bytes
  have hr := BB.returns
  have hts := atoms_spec (ws := wsL_isBoost) BB.pre
  have hown : s.vm.findClass RL = some m.cls := findClass_of_methodNamed BB.named
  have hlocks := BB.notSynchronized
  subst hsz
  have hD := hD0.self (sz := s.heap.size)
  have hA : ∀ q : Nat, s.heap.size ≤ q → (va_A Ww s.heap.size) q := fun q h => Or.inr h
  have hS : va_S (va_A Ww s.heap.size) s.heap s.heap [] := va_S.rf
  obtain ⟨A0, hA0⟩ : ∃ A0 : Nat → Prop, A0 = va_A Ww s.heap.size := ⟨_, rfl⟩
  rw [← hA0]
  rw [← hA0] at hD hA hS hZ
  have hl := lv_entry ([.ref vo, .int a0, .int a1]) (n := 4) (Nat.le_of_ble_eq_true rfl)
  rw [lg_entry_eq]
  generalize (lg_sl ([.ref vo, .int a0, .int a1]) ++ List.replicate (4 - (lg_sl ([.ref vo, .int a0, .int a1])).length) Slot.unset).toArray = ls at hl ⊢
  have hl : lv_has ls 4 [(0, .ref vo), (1, .int a0), (2, .int a1)] := hl
  refine lv_aload_n hx hb dL_isBoost_0 rfl (lv_at hl 0 rfl) ?_
  refine lv_iload_n hx hb dL_isBoost_1 rfl (lv_at hl 1 rfl) ?_
  refine lv_iload_n hx hb dL_isBoost_2 rfl (lv_at hl 2 rfl) ?_
  have hP8 := vp_perm hP hpw
  have hD8 := vd_perm hpw hD
  have hF8 := vj_free hD8 hS hA
  have hDc : va_D (va_A Wc s.heap.size) Wc := ((vd_app.mp hD8).1.weaken (fun _ _ _ _ => trivial) : va_D (fun _ => True) Wc).self (sz := s.heap.size)
  refine vx_callv (vx_runV (As := [.int a0, .int a1]) (rest := []) ⟨hx, hb, hml, hown, hts⟩ (hM s.heap.size) (cwV 2 hts gL_isBoost_X4_boost rfl hrm.1 hrm.2.1 (by decide +kernel) ⟨by show rm.frames + 1 ≤ 13; omega, by show 8 + (6 + 11) + rm.locals ≤ 345; omega⟩) (vh_P.preV hE hF hZ hS (vj_free (vd_perm hpw hD) hS hA) hP k0 hk0 rfl (vp_app.mp (vp_perm hP hpw)).1 (vd_app.mp (vd_perm hpw hD)).1) rfl rfl hl.1 rfl (lv_room (Nat.le_of_ble_eq_true rfl)) dL_isBoost_3 ⟨by show 0 + mc ≤ 12; omega, by show 0 + ms ≤ 12351; omega⟩) hS (fun q _ h => hF8 q h) hF8 (fun q _ h => hF8 q h) (fun E9 ce q9 u t H1 locs1 ht1 hvm _ hB hz hk hS1 hce hcv hcl => ?_) (fun u t H1 locs1 _ _ hpost => hpost.elim)
  obtain ⟨rfl, hP1⟩ := hB
  rw [ht1] at hP1
  obtain ⟨a81, a82⟩ := vj_join hP8 hD8 hk hF8 hP1 hDc
  have hP : va_P D vwCl Ww H1 := vp_perm a81 hpw.symm
  have hD : va_D A0 Ww := vd_perm hpw.symm a82
  have htab : c.exceptionTable.toList = tableOf [(0, 6, 9, 25)] := vx_table (x := yL_isBoost) BB (hts _ List.mem_cons_self)
  refine vx_catch (own := RL) (name := "java/lang/IllegalStateException") hown (tableOf []) ⟨0, 6, 9, 25⟩ (tableOf []) (by rw [htab]; rfl) (fun z hz => nomatch hz) (by decide) (by decide) (hts (.classLink RL 25 "java/lang/IllegalStateException") (by decide +kernel)) (va_Nw.use rfl (hF.2.2.2.2.2 (.castable "java/lang/IllegalStateException" "java/lang/IllegalStateException") (by decide +kernel))) hce hcv hcl ?_
  refine lv_astore_n (lv' := [(3, .ref q9), (0, .ref vo), (1, .int a0), (2, .int a1)]) hx hb dL_isBoost_9 rfl hl (by decide) rfl (fun ls hl => ?_)
  refine lv_iconst (v := 0) hx hb dL_isBoost_10 (by decide) ?_
  subst hA0
  refine W.widen (k := 12) (n := 12351) (by omega) (by omega) ?_
  exact W.zret (v := 0) (ty := .boolean) hx hb hr rfl (fun t ht hW => ⟨⟨0, (), rfl, rfl, (by rw [ht]; exact hP), hD⟩, hS1.F ht⟩) hS1.2.2 dL_isBoost_11

set_option maxHeartbeats 4000000 in
set_option maxRecDepth 100000 in
theorem kL_deletes_ok {S : Type} (l : Launch) (D : va_G) (cy : Nat → ClassId) (sz e0 mi : Nat) (vo : Nat) (a0 : Int32) (Ww Wc Wr : va_W) (k0 : Nat) (fs : List Value) (hk0 : Ww[k0]? = some (vo, .inr (5, fs))) (hpw : Ww.Perm (wJ Wc Wr)) (W1 : S → va_W) (post : Int32 → S → Prop) {rm : Room} {mc ms : Nat} (hrm : rm.cells = mc ∧ rm.slots = ms ∧ rm.frames ≤ 12 ∧ rm.locals ≤ 314 ∧ mc ≤ 12 ∧ ms ≤ 12351) (hM : ∀ sz : Nat, Met l yX4_delete wsX4_delete rm (vh_P D cy e0 mi [.ref vo, .int a0] sz Wc) (vg_Qi (S := S) D sz Wc post W1) mc ms (va_A Wc sz)) : Met l yL_deletes wsL_deletes ({ frames := 13, cells := 12, slots := 12351, locals := 345 }) (vh_P D cy e0 mi [.ref vo, .int a0] sz Ww) (vg_Qi (S := S) D sz Ww post (fun u => wJ (W1 u) Wr)) 12 12351 (va_A Ww sz) := by
  refine vw_ofWH (cc := cL_deletes) (maxL := 3) (ret := (some .int)) (hh := [(0, 5, 6, 25)]) (by decide) rfl ?_
  intro p e s m args below meth c s₁ BB hml hv
  obtain ⟨rfl, hsz, hP, hE, hD0, hF, hZ⟩ := hv
  have hx := BB.exec
  have hb := BB.bytes
  have hr := BB.returns
  have hts := atoms_spec (ws := wsL_deletes) BB.pre
  have hown : s.vm.findClass RL = some m.cls := findClass_of_methodNamed BB.named
  have hlocks := BB.notSynchronized
  subst hsz
  have hD := hD0.self (sz := s.heap.size)
  have hA : ∀ q : Nat, s.heap.size ≤ q → (va_A Ww s.heap.size) q := fun q h => Or.inr h
  have hS : va_S (va_A Ww s.heap.size) s.heap s.heap [] := va_S.rf
  obtain ⟨A0, hA0⟩ : ∃ A0 : Nat → Prop, A0 = va_A Ww s.heap.size := ⟨_, rfl⟩
  rw [← hA0]
  rw [← hA0] at hD hA hS hZ
  have hl := lv_entry ([.ref vo, .int a0]) (n := 3) (Nat.le_of_ble_eq_true rfl)
  rw [lg_entry_eq]
  generalize (lg_sl ([.ref vo, .int a0]) ++ List.replicate (3 - (lg_sl ([.ref vo, .int a0])).length) Slot.unset).toArray = ls at hl ⊢
  have hl : lv_has ls 3 [(0, .ref vo), (1, .int a0)] := hl
  refine lv_aload_n hx hb dL_deletes_0 rfl (lv_at hl 0 rfl) ?_
  refine lv_iload_n hx hb dL_deletes_1 rfl (lv_at hl 1 rfl) ?_
  refine vj_calli (va_runV (As := [.int a0]) (rest := []) ⟨hx, hb, hml, hown, hts⟩ (hM s.heap.size) (cwV 1 hts gL_deletes_X4_delete rfl hrm.1 hrm.2.1 (by decide +kernel) ⟨by show rm.frames + 1 ≤ 13; omega, by show 8 + (3 + 11) + rm.locals ≤ 345; omega⟩) (vh_P.preV hE hF hZ hS (vj_free (vd_perm hpw hD) hS hA) hP k0 hk0 rfl (vp_app.mp (vp_perm hP hpw)).1 (vd_app.mp (vd_perm hpw hD)).1) rfl rfl hl.1 rfl (lv_room (Nat.le_of_ble_eq_true rfl)) dL_deletes_2 ⟨by show 0 + mc ≤ 12; omega, by show 0 + ms ≤ 12351; omega⟩) hP hD hS hA hpw (fun r u H locs hu hP hD hS => ?_)
  subst hA0
  refine W.widen (k := 12) (n := 12351) (by omega) (by omega) ?_
  exact W.iret (v := r) hx hb hr (fun t ht hW => ⟨⟨r, u, rfl, hu, (by rw [ht]; exact hP), hD⟩, hS.F ht⟩) hS.2.2 dL_deletes_5

set_option maxHeartbeats 4000000 in
set_option maxRecDepth 100000 in
theorem kL_deletes_S (l : Launch) (D : va_G) (cy : Nat → ClassId) (sz e0 mi : Nat) (vo : Nat) (a0 : Int32) (Ww Wc Wr : va_W) (k0 : Nat) (fs : List Value) (hk0 : Ww[k0]? = some (vo, .inr (5, fs))) (hpw : Ww.Perm (wJ Wc Wr)) {rm : Room} {mc ms : Nat} (hrm : rm.cells = mc ∧ rm.slots = ms ∧ rm.frames ≤ 12 ∧ rm.locals ≤ 314 ∧ mc ≤ 12 ∧ ms ≤ 12351) (hM : ∀ sz : Nat, vx_Met l yX4_delete wsX4_delete rm (vh_P D cy e0 mi [.ref vo, .int a0] sz Wc) (vh_N Wc sz) (vh_X D "java/lang/IllegalStateException" Wc sz) mc ms (va_A Wc sz)) : Met l yL_deletes wsL_deletes ({ frames := 13, cells := 12, slots := 12351, locals := 345 }) (vh_P D cy e0 mi [.ref vo, .int a0] sz Ww) (vg_Qi (S := Unit) D sz Ww (fun r _ => r = (-1)) (fun _ => Ww)) 12 12351 (va_A Ww sz) := by
  refine vw_ofWH (cc := cL_deletes) (maxL := 3) (ret := (some .int)) (hh := [(0, 5, 6, 25)]) (by decide) rfl ?_
  intro p e s m args below meth c s₁ BB hml hv
  obtain ⟨rfl, hsz, hP, hE, hD0, hF, hZ⟩ := hv
  have hx := BB.exec
  have hb := BB.bytes
  have hr := BB.returns
  have hts := atoms_spec (ws := wsL_deletes) BB.pre
  have hown : s.vm.findClass RL = some m.cls := findClass_of_methodNamed BB.named
  have hlocks := BB.notSynchronized
  subst hsz
  have hD := hD0.self (sz := s.heap.size)
  have hA : ∀ q : Nat, s.heap.size ≤ q → (va_A Ww s.heap.size) q := fun q h => Or.inr h
  have hS : va_S (va_A Ww s.heap.size) s.heap s.heap [] := va_S.rf
  obtain ⟨A0, hA0⟩ : ∃ A0 : Nat → Prop, A0 = va_A Ww s.heap.size := ⟨_, rfl⟩
  rw [← hA0]
  rw [← hA0] at hD hA hS hZ
  have hl := lv_entry ([.ref vo, .int a0]) (n := 3) (Nat.le_of_ble_eq_true rfl)
  rw [lg_entry_eq]
  generalize (lg_sl ([.ref vo, .int a0]) ++ List.replicate (3 - (lg_sl ([.ref vo, .int a0])).length) Slot.unset).toArray = ls at hl ⊢
  have hl : lv_has ls 3 [(0, .ref vo), (1, .int a0)] := hl
  refine lv_aload_n hx hb dL_deletes_0 rfl (lv_at hl 0 rfl) ?_
  refine lv_iload_n hx hb dL_deletes_1 rfl (lv_at hl 1 rfl) ?_
  have hP8 := vp_perm hP hpw
  have hD8 := vd_perm hpw hD
  have hF8 := vj_free hD8 hS hA
  have hDc : va_D (va_A Wc s.heap.size) Wc := ((vd_app.mp hD8).1.weaken (fun _ _ _ _ => trivial) : va_D (fun _ => True) Wc).self (sz := s.heap.size)
  refine vx_callv (vx_runV (As := [.int a0]) (rest := []) ⟨hx, hb, hml, hown, hts⟩ (hM s.heap.size) (cwV 1 hts gL_deletes_X4_delete rfl hrm.1 hrm.2.1 (by decide +kernel) ⟨by show rm.frames + 1 ≤ 13; omega, by show 8 + (3 + 11) + rm.locals ≤ 345; omega⟩) (vh_P.preV hE hF hZ hS (vj_free (vd_perm hpw hD) hS hA) hP k0 hk0 rfl (vp_app.mp (vp_perm hP hpw)).1 (vd_app.mp (vd_perm hpw hD)).1) rfl rfl hl.1 rfl (lv_room (Nat.le_of_ble_eq_true rfl)) dL_deletes_2 ⟨by show 0 + mc ≤ 12; omega, by show 0 + ms ≤ 12351; omega⟩) hS (fun q _ h => hF8 q h) hF8 (fun q _ h => hF8 q h) (fun E9 ce q9 u t H1 locs1 ht1 hvm _ hB hz hk hS1 hce hcv hcl => ?_) (fun u t H1 locs1 _ _ hpost => hpost.elim)
  obtain ⟨rfl, hP1⟩ := hB
  rw [ht1] at hP1
  obtain ⟨a81, a82⟩ := vj_join hP8 hD8 hk hF8 hP1 hDc
  have hP : va_P D vwCl Ww H1 := vp_perm a81 hpw.symm
  have hD : va_D A0 Ww := vd_perm hpw.symm a82
  have htab : c.exceptionTable.toList = tableOf [(0, 5, 6, 25)] := vx_table (x := yL_deletes) BB (hts _ List.mem_cons_self)
  refine vx_catch (own := RL) (name := "java/lang/IllegalStateException") hown (tableOf []) ⟨0, 5, 6, 25⟩ (tableOf []) (by rw [htab]; rfl) (fun z hz => nomatch hz) (by decide) (by decide) (hts (.classLink RL 25 "java/lang/IllegalStateException") (by decide +kernel)) (va_Nw.use rfl (hF.2.2.2.2.2 (.castable "java/lang/IllegalStateException" "java/lang/IllegalStateException") (by decide +kernel))) hce hcv hcl ?_
  refine lv_astore_n (lv' := [(2, .ref q9), (0, .ref vo), (1, .int a0)]) hx hb dL_deletes_6 rfl hl (by decide) rfl (fun ls hl => ?_)
  refine lv_iconst (v := (-1)) hx hb dL_deletes_7 (by decide) ?_
  subst hA0
  refine W.widen (k := 12) (n := 12351) (by omega) (by omega) ?_
  exact W.iret (v := (-1)) hx hb hr (fun t ht hW => ⟨⟨(-1), (), rfl, rfl, (by rw [ht]; exact hP), hD⟩, hS1.F ht⟩) hS1.2.2 dL_deletes_8
