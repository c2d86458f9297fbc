/-! p20: the law's small methods that do not catch -/

set_option maxHeartbeats 4000000 in
set_option maxRecDepth 100000 in
theorem kD_drawn (l : Launch) (D : va_G) (b L : Nat) (xs : Nat → Int32) (sz j ch : Nat) (hL : L ≤ 260) (hj : j < 1000) (h0 : 0 < ch) (h1 : ch < 2 ^ 31) : Met l yL_drawn wsL_drawn ({ frames := 0, cells := 0, slots := 0, locals := 0 }) (vd_P b L xs [.ref b, .int (nI j), .int (nI ch)] sz) (vg_Qi (S := Nat) D sz ([] : va_W) (fun r k => r = nI k ∧ k < ch) (fun _ => ([] : va_W))) 0 0 (va_A ([] : va_W) sz) := by
  refine Met.ofW (cc := cL_drawn) (maxL := 4) (ret := some .int) (by decide) rfl ?_
  intro p e s m args below meth c s₁ BB hml hv
  obtain ⟨rfl, hsz, hX, hbl⟩ := hv
  have hx := BB.exec
  have hb := BB.bytes
  have hr := BB.returns
  have hts := atoms_spec (ws := wsL_drawn) BB.pre
  have hown : s.vm.findClass RL = some m.cls := findClass_of_methodNamed BB.named
  have hlocks := BB.notSynchronized
  subst hsz
  have hA : ∀ q : Nat, s.heap.size ≤ q → (va_A ([] : va_W) s.heap.size) q := fun q h => Or.inr h
  have hS : va_S (va_A ([] : va_W) s.heap.size) s.heap s.heap [] := va_S.rf
  have hl := lv_entry ([.ref b, .int (nI j), .int (nI ch)]) (n := 4) (Nat.le_of_ble_eq_true rfl)
  rw [lg_entry_eq]
  generalize (lg_sl ([.ref b, .int (nI j), .int (nI ch)]) ++ List.replicate (4 - (lg_sl ([.ref b, .int (nI j), .int (nI ch)])).length) Slot.unset).toArray = ls at hl ⊢
  have hl : lv_has ls 4 [(0, .ref b), (1, .int (nI j)), (2, .int (nI ch))] := hl
  have hbA : ¬ va_A ([] : va_W) s.heap.size b := fun z => by
    rcases z with ⟨k, e, z⟩ | z
    · simp at z
    · omega
  have J : ∀ x : Int32, W p l e (headSpec wsL_drawn ({ frames := 0, cells := 0, slots := 0, locals := 0 })).room s m ([.ref b, .int (nI j), .int (nI ch)] : List Value).toArray below meth c s.heap [] 0 0 (MQ below (vg_Qi (S := Nat) D s.heap.size ([] : va_W) (fun r k => r = nI k ∧ k < ch) (fun _ => ([] : va_W))) ([.ref b, .int (nI j), .int (nI ch)] : List Value).toArray s 0 0 (va_A ([] : va_W) s.heap.size)) (F0 m 20 ls [.int x]) := by
    intro x
    refine lv_istore_n (lv' := [(3, .int x), (0, .ref b), (1, .int (nI j)), (2, .int (nI ch))]) hx hb dL_drawn_20 rfl hl (by decide) rfl (fun ls hl => ?_)
    refine lv_iload_n hx hb dL_drawn_21 rfl (lv_at hl 0 rfl) ?_
    refine lv_iconst (v := 1) hx hb dL_drawn_22 (by decide) ?_
    refine vg_tp (nI 1) (by decide) ?_
    obtain ⟨k, hk, ek⟩ := ush_n x
    refine lv_iushr (v := nI k) hx hb dL_drawn_23 ek ?_
    refine lv_iload_n hx hb dL_drawn_24 rfl (lv_at hl 3 rfl) ?_
    refine lv_irem hx hb dL_drawn_25 (nI_n0 h0 h1) ?_
    refine vg_tp (nI (k % ch)) (pk_rem hk h0 h1) ?_
    exact W.iret (v := nI (k % ch)) hx hb hr (fun t ht hW => ⟨⟨nI (k % ch), k % ch, rfl, ⟨rfl, Nat.mod_lt _ h0⟩, vg_P0, vg_D0⟩, hS.F ht⟩) hS.2.2 dL_drawn_26
  refine lv_iload_n hx hb dL_drawn_0 rfl (lv_at hl 1 rfl) ?_
  refine lv_aload_n hx hb dL_drawn_1 rfl (lv_at hl 0 rfl) ?_
  refine va_slen hx hb hX hbl hbA hS dL_drawn_2 ?_
  refine vg_tp (nI L) rfl ?_
  refine lv_icmp_ge (tgt := 12) hx hb dL_drawn_3 (by decide) (fun _ => ?_) (fun z => ?_)
  · refine lv_ldc (own := RL) (index := 7) (v := 36697) hx hb hown (hts (.constant RL 7 36697) (by decide +kernel)) dL_drawn_12 ?_
    refine lv_iload_n hx hb dL_drawn_14 rfl (lv_at hl 1 rfl) ?_
    refine lv_imul hx hb dL_drawn_15 ?_
    refine lv_sipush (v := 17041) hx hb dL_drawn_16 (by decide) ?_
    refine lv_iadd hx hb dL_drawn_19 ?_
    exact J _
  · have z : j < L := Nat.lt_of_not_le (fun q => z ((nI_leI (by omega) (by omega)).mpr q))
    refine lv_aload_n hx hb dL_drawn_6 rfl (lv_at hl 0 rfl) ?_
    refine lv_iload_n hx hb dL_drawn_7 rfl (lv_at hl 1 rfl) ?_
    refine va_sld hx hb hX hbl hbA hS (vp_in_nI z (by omega)) dL_drawn_8 ?_
    refine lv_goto (tgt := 20) hx hb dL_drawn_9 (by decide) ?_
    exact J _

def mSum (μ : Nat → Nat → Int32) (s : Nat) : Int32 := mOfsR μ (nI s) (nI 1) + 1000 * mOfsR μ (nI s) (nI 2) + 100000 * mOfsR μ (nI s) (nI 3) + 3000000 * mOfsR μ (nI s) (nI 4) + 130000000 * (mOfsR μ (nI s) (nI 5) - mOfsR μ (nI s) (nI 5) / 10 * 10)
set_option maxHeartbeats 4000000 in
set_option maxRecDepth 100000 in
theorem kD_sum (l : Launch) (hfl : l.stackTraces = false) (D : va_G) (cy : Nat → ClassId) (sz e0 mi vo n : Nat) (μ : Nat → Nat → Int32) (w : va_W) (hI : CI cy e0 vo n μ w) (hn : n < 511) (h6 : μ 1 0 = nI 6) {s0 : Nat} (hs : s0 < 4) : Met l yL_sum wsL_sum ({ frames := 5, cells := 0, slots := 0, locals := 150 }) (vh_P D cy e0 mi [.ref vo, .int (nI s0)] sz w) (vg_Qi (S := Unit) D sz w (fun r _ => r = mSum μ s0) (fun _ => w)) 0 0 (va_A w sz) := by
  refine Met.ofW (cc := cL_sum) (maxL := 2) (ret := some .int) (by decide) rfl ?_
  intro p e s m args below meth c s₁ BB hml hv
  obtain ⟨rfl, hsz, hP, hE, hD0, hF, hZ⟩ := hv
  have hx := BB.exec
  have hb := BB.bytes
  have hr := BB.returns
  have hts := atoms_spec (ws := wsL_sum) BB.pre
  have hown : s.vm.findClass RL = some m.cls := findClass_of_methodNamed BB.named
  have hlocks := BB.notSynchronized
  subst hsz
  have hA : ∀ q : Nat, s.heap.size ≤ q → (va_A w s.heap.size) q := fun q h => Or.inr h
  have hS : va_S (va_A w s.heap.size) s.heap s.heap [] := va_S.rf
  have hD : va_D (va_A w s.heap.size) w := hD0.self (sz := s.heap.size)
  have hl := lv_entry ([.ref vo, .int (nI s0)]) (n := 2) (Nat.le_of_ble_eq_true rfl)
  rw [lg_entry_eq]
  generalize (lg_sl ([.ref vo, .int (nI s0)]) ++ List.replicate (2 - (lg_sl ([.ref vo, .int (nI s0)])).length) Slot.unset).toArray = ls at hl ⊢
  have hl : lv_has ls 2 [(0, .ref vo), (1, .int (nI s0))] := hl
  refine lv_aload_n hx hb dL_sum_0 rfl (lv_at hl 0 rfl) ?_
  refine lv_iload_n hx hb dL_sum_1 rfl (lv_at hl 1 rfl) ?_
  refine lv_iconst (v := 1) hx hb dL_sum_2 (by decide) ?_
  refine vg_tp (nI 1) (by decide) ?_
  refine vQ_r (U := ([] : va_W)) (va_runV (As := [.int (nI s0), .int (nI 1)]) (rest := []) ⟨hx, hb, hml, hown, hts⟩ (kN_ofServer l hfl D cy s.heap.size e0 mi vo n μ w hI hn h6 hs (show 1 < 6 by omega)) (cwV 2 hts gL_sum_X4_ofServer rfl rfl rfl (by decide +kernel) ⟨Nat.le_of_ble_eq_true rfl, Nat.le_of_ble_eq_true rfl⟩) (vQ_pV (U := ([] : va_W)) hI hE hF hZ hS hA hP hD) rfl rfl hl.1 rfl (lv_room (Nat.le_of_ble_eq_true rfl)) dL_sum_3 ⟨Nat.le_of_ble_eq_true rfl, Nat.le_of_ble_eq_true rfl⟩) hP hD hS hA (fun r u H locs hk hP hD hS => ?_)
  subst hk
  refine lv_sipush (v := 1000) hx hb dL_sum_6 (by decide) ?_
  refine lv_aload_n hx hb dL_sum_9 rfl (lv_at hl 0 rfl) ?_
  refine lv_iload_n hx hb dL_sum_10 rfl (lv_at hl 1 rfl) ?_
  refine lv_iconst (v := 2) hx hb dL_sum_11 (by decide) ?_
  refine vg_tp (nI 2) (by decide) ?_
  refine vQ_r (U := ([] : va_W)) (va_runV (As := [.int (nI s0), .int (nI 2)]) (rest := [.int 1000, .int (mOfsR μ (nI s0) (nI 1))]) ⟨hx, hb, hml, hown, hts⟩ (kN_ofServer l hfl D cy H.size e0 mi vo n μ w hI hn h6 hs (show 2 < 6 by omega)) (cwV 2 hts gL_sum_X4_ofServer rfl rfl rfl (by decide +kernel) ⟨Nat.le_of_ble_eq_true rfl, Nat.le_of_ble_eq_true rfl⟩) (vQ_pV (U := ([] : va_W)) hI hE hF hZ hS hA hP hD) rfl rfl hl.1 rfl (lv_room (Nat.le_of_ble_eq_true rfl)) dL_sum_12 ⟨Nat.le_of_ble_eq_true rfl, Nat.le_of_ble_eq_true rfl⟩) hP hD hS hA (fun r u H locs hk hP hD hS => ?_)
  subst hk
  refine lv_imul hx hb dL_sum_15 ?_
  refine lv_iadd hx hb dL_sum_16 ?_
  refine lv_ldc (own := RL) (index := 18) (v := 100000) hx hb hown (hts (.constant RL 18 100000) (by decide +kernel)) dL_sum_17 ?_
  refine lv_aload_n hx hb dL_sum_19 rfl (lv_at hl 0 rfl) ?_
  refine lv_iload_n hx hb dL_sum_20 rfl (lv_at hl 1 rfl) ?_
  refine lv_iconst (v := 3) hx hb dL_sum_21 (by decide) ?_
  refine vg_tp (nI 3) (by decide) ?_
  refine vQ_r (U := ([] : va_W)) (va_runV (As := [.int (nI s0), .int (nI 3)]) (rest := [.int 100000, .int ((mOfsR μ (nI s0) (nI 1)) + (1000 * (mOfsR μ (nI s0) (nI 2))))]) ⟨hx, hb, hml, hown, hts⟩ (kN_ofServer l hfl D cy H.size e0 mi vo n μ w hI hn h6 hs (show 3 < 6 by omega)) (cwV 2 hts gL_sum_X4_ofServer rfl rfl rfl (by decide +kernel) ⟨Nat.le_of_ble_eq_true rfl, Nat.le_of_ble_eq_true rfl⟩) (vQ_pV (U := ([] : va_W)) hI hE hF hZ hS hA hP hD) rfl rfl hl.1 rfl (lv_room (Nat.le_of_ble_eq_true rfl)) dL_sum_22 ⟨Nat.le_of_ble_eq_true rfl, Nat.le_of_ble_eq_true rfl⟩) hP hD hS hA (fun r u H locs hk hP hD hS => ?_)
  subst hk
  refine lv_imul hx hb dL_sum_25 ?_
  refine lv_iadd hx hb dL_sum_26 ?_
  refine lv_ldc (own := RL) (index := 19) (v := 3000000) hx hb hown (hts (.constant RL 19 3000000) (by decide +kernel)) dL_sum_27 ?_
  refine lv_aload_n hx hb dL_sum_29 rfl (lv_at hl 0 rfl) ?_
  refine lv_iload_n hx hb dL_sum_30 rfl (lv_at hl 1 rfl) ?_
  refine lv_iconst (v := 4) hx hb dL_sum_31 (by decide) ?_
  refine vg_tp (nI 4) (by decide) ?_
  refine vQ_r (U := ([] : va_W)) (va_runV (As := [.int (nI s0), .int (nI 4)]) (rest := [.int 3000000, .int (((mOfsR μ (nI s0) (nI 1)) + (1000 * (mOfsR μ (nI s0) (nI 2)))) + (100000 * (mOfsR μ (nI s0) (nI 3))))]) ⟨hx, hb, hml, hown, hts⟩ (kN_ofServer l hfl D cy H.size e0 mi vo n μ w hI hn h6 hs (show 4 < 6 by omega)) (cwV 2 hts gL_sum_X4_ofServer rfl rfl rfl (by decide +kernel) ⟨Nat.le_of_ble_eq_true rfl, Nat.le_of_ble_eq_true rfl⟩) (vQ_pV (U := ([] : va_W)) hI hE hF hZ hS hA hP hD) rfl rfl hl.1 rfl (lv_room (Nat.le_of_ble_eq_true rfl)) dL_sum_32 ⟨Nat.le_of_ble_eq_true rfl, Nat.le_of_ble_eq_true rfl⟩) hP hD hS hA (fun r u H locs hk hP hD hS => ?_)
  subst hk
  refine lv_imul hx hb dL_sum_35 ?_
  refine lv_iadd hx hb dL_sum_36 ?_
  refine lv_ldc (own := RL) (index := 20) (v := 130000000) hx hb hown (hts (.constant RL 20 130000000) (by decide +kernel)) dL_sum_37 ?_
  refine lv_aload_n hx hb dL_sum_39 rfl (lv_at hl 0 rfl) ?_
  refine lv_iload_n hx hb dL_sum_40 rfl (lv_at hl 1 rfl) ?_
  refine lv_iconst (v := 5) hx hb dL_sum_41 (by decide) ?_
  refine vg_tp (nI 5) (by decide) ?_
  refine vQ_r (U := ([] : va_W)) (va_runV (As := [.int (nI s0), .int (nI 5)]) (rest := [.int 130000000, .int ((((mOfsR μ (nI s0) (nI 1)) + (1000 * (mOfsR μ (nI s0) (nI 2)))) + (100000 * (mOfsR μ (nI s0) (nI 3)))) + (3000000 * (mOfsR μ (nI s0) (nI 4))))]) ⟨hx, hb, hml, hown, hts⟩ (kN_ofServer l hfl D cy H.size e0 mi vo n μ w hI hn h6 hs (show 5 < 6 by omega)) (cwV 2 hts gL_sum_X4_ofServer rfl rfl rfl (by decide +kernel) ⟨Nat.le_of_ble_eq_true rfl, Nat.le_of_ble_eq_true rfl⟩) (vQ_pV (U := ([] : va_W)) hI hE hF hZ hS hA hP hD) rfl rfl hl.1 rfl (lv_room (Nat.le_of_ble_eq_true rfl)) dL_sum_42 ⟨Nat.le_of_ble_eq_true rfl, Nat.le_of_ble_eq_true rfl⟩) hP hD hS hA (fun r u H locs hk hP hD hS => ?_)
  subst hk
  refine lv_bipush (v := 10) hx hb dL_sum_45 (by decide) ?_
  refine lv_irem hx hb dL_sum_47 (by decide) ?_
  refine lv_imul hx hb dL_sum_48 ?_
  refine lv_iadd hx hb dL_sum_49 ?_
  exact W.iret (v := mSum μ s0) hx hb hr (fun t ht hW => ⟨⟨mSum μ s0, (), rfl, rfl, (by rw [ht]; exact hP), hD⟩, hS.F ht⟩) hS.2.2 dL_sum_50

set_option maxHeartbeats 4000000 in
set_option maxRecDepth 100000 in
theorem kD_isWell (l : Launch) (hfl : l.stackTraces = false) (D : va_G) (cy : Nat → ClassId) (sz e0 mi vo nn nc : Nat) (μ : Nat → Nat → Int32) (w : va_W) (hK : KK cy e0 vo μ nn nc w) {s0 : Nat} (hs : s0 < 4) : Met l yL_isWell wsL_isWell ({ frames := 5, cells := 0, slots := 0, locals := 150 }) (vh_P D cy e0 mi [.ref vo, .int (nI s0), .int (nI 6)] sz w) (vg_Qi (S := Unit) D sz w (fun r _ => r = 1) (fun _ => w)) 0 0 (va_A w sz) := by
  have hI := hK.1
  have h6 := hK.2.1.1
  have hI4 := KK_I4 hK s0 hs
  have hJF := hK.2.2.2.2.1 s0 hs
  refine Met.ofW (cc := cL_isWell) (maxL := 10) (ret := some .boolean) (by decide) rfl ?_
  intro p e s m args below meth c s₁ BB hml hv
  obtain ⟨rfl, hsz, hP, hE, hD0, hF, hZ⟩ := hv
  have hx := BB.exec
  have hb := BB.bytes
  have hr := BB.returns
  have hts := atoms_spec (ws := wsL_isWell) BB.pre
  have hown : s.vm.findClass RL = some m.cls := findClass_of_methodNamed BB.named
  have hlocks := BB.notSynchronized
  subst hsz
  have hA : ∀ q : Nat, s.heap.size ≤ q → (va_A w s.heap.size) q := fun q h => Or.inr h
  have hS : va_S (va_A w s.heap.size) s.heap s.heap [] := va_S.rf
  have hD : va_D (va_A w s.heap.size) w := hD0.self (sz := s.heap.size)
  have hl := lv_entry ([.ref vo, .int (nI s0), .int (nI 6)]) (n := 10) (Nat.le_of_ble_eq_true rfl)
  rw [lg_entry_eq]
  generalize (lg_sl ([.ref vo, .int (nI s0), .int (nI 6)]) ++ List.replicate (10 - (lg_sl ([.ref vo, .int (nI s0), .int (nI 6)])).length) Slot.unset).toArray = ls at hl ⊢
  have hl : lv_has ls 10 [(0, .ref vo), (1, .int (nI s0)), (2, .int (nI 6))] := hl
  obtain ⟨fA, hfA⟩ : ∃ f : Nat → Nat, f = fun p => sT (fun q => (if μ 3 (100 * s0 + 10 * p + q) = 0 then 0 else 1)) 6 := ⟨_, rfl⟩
  obtain ⟨fF, hfF⟩ : ∃ f : Nat → Nat, f = fun p => sT (fun q => (if μ 4 (100 * s0 + 10 * p + q) = 0 then 0 else 1)) 6 := ⟨_, rfl⟩
  have outer : ∀ (d p1 : Nat), p1 + d = 6 → ∀ (H : Heap) (locs : List Loc) (ls : Array Slot), va_P D vwCl w H → va_D (va_A w s.heap.size) w → va_S (va_A w s.heap.size) s.heap H locs → lv_has ls 10 [(0, .ref vo), (1, .int (nI s0)), (2, .int (nI 6)), (3, .int (nI (sT fA p1))), (4, .int (nI (sT fF p1))), (5, .int (nI 1)), (6, .int (nI p1))] → W p l e (headSpec wsL_isWell ({ frames := 5, cells := 0, slots := 0, locals := 150 })).room s m ([.ref vo, .int (nI s0), .int (nI 6)] : List Value).toArray below meth c H locs 0 0 (MQ below (vg_Qi (S := Unit) D s.heap.size w (fun r _ => r = 1) (fun _ => w)) ([.ref vo, .int (nI s0), .int (nI 6)] : List Value).toArray s 0 0 (va_A w s.heap.size)) (F0 m 11 ls []) := by
    intro d
    induction d with
    | zero =>
      intro p1 hp1 H locs ls hP hD hS hl
      have e6 : p1 = 6 := by omega
      subst e6
      refine lv_iload hx hb dL_isWell_11 (lv_at hl 6 rfl) ?_
      refine lv_iload_n hx hb dL_isWell_13 rfl (lv_at hl 2 rfl) ?_
      refine lv_icmp_ge (tgt := 161) hx hb dL_isWell_14 (by decide) (fun _ => ?_) (fun z9 => absurd ((nI_leI (a := 6) (b := 6) (by omega) (by omega)).mpr (by omega)) z9)
      refine lv_iload hx hb dL_isWell_161 (lv_at hl 5 rfl) ?_
      refine lv_if_eq (tgt := 191) hx hb dL_isWell_163 (by decide) (fun z9 => absurd z9 (fun q9 => absurd ((nI_eq (a := 1) (b := 0) (by omega) (by omega)).mp q9) (by omega))) (fun _ => ?_)
      refine lv_aload_n hx hb dL_isWell_166 rfl (lv_at hl 0 rfl) ?_
      refine lv_iload_n hx hb dL_isWell_167 rfl (lv_at hl 1 rfl) ?_
      refine lv_iconst (v := 4) hx hb dL_isWell_168 (by decide) ?_
      refine vg_tp (nI 4) (by decide) ?_
      refine vQ_r (U := ([] : va_W)) (va_runV (As := [.int (nI s0), .int (nI 4)]) (rest := []) ⟨hx, hb, hml, hown, hts⟩ (kN_ofServer l hfl D cy H.size e0 mi vo 130 μ w hI (by omega) h6 hs (show 4 < 6 by omega)) (cwV 2 hts gL_isWell_X4_ofServer rfl rfl rfl (by decide +kernel) ⟨Nat.le_of_ble_eq_true rfl, Nat.le_of_ble_eq_true rfl⟩) (vQ_pV (U := ([] : va_W)) hI hE hF hZ hS hA hP hD) rfl rfl hl.1 rfl (lv_room (Nat.le_of_ble_eq_true rfl)) dL_isWell_169 ⟨Nat.le_of_ble_eq_true rfl, Nat.le_of_ble_eq_true rfl⟩) hP hD hS hA (fun r u H locs hk hP hD hS => ?_)
      rw [ofs_k hs (Or.inl ⟨rfl, rfl⟩) hI4] at hk
      subst hk
      refine lv_iload hx hb dL_isWell_172 (lv_at hl 4 rfl) ?_
      refine lv_icmp_ne (tgt := 191) hx hb dL_isWell_174 (by decide) (fun z9 => absurd (congrArg nI (by rw [hfF])) z9) (fun _ => ?_)
      refine lv_aload_n hx hb dL_isWell_177 rfl (lv_at hl 0 rfl) ?_
      refine lv_iload_n hx hb dL_isWell_178 rfl (lv_at hl 1 rfl) ?_
      refine lv_iconst (v := 5) hx hb dL_isWell_179 (by decide) ?_
      refine vg_tp (nI 5) (by decide) ?_
      refine vQ_r (U := ([] : va_W)) (va_runV (As := [.int (nI s0), .int (nI 5)]) (rest := []) ⟨hx, hb, hml, hown, hts⟩ (kN_ofServer l hfl D cy H.size e0 mi vo 130 μ w hI (by omega) h6 hs (show 5 < 6 by omega)) (cwV 2 hts gL_isWell_X4_ofServer rfl rfl rfl (by decide +kernel) ⟨Nat.le_of_ble_eq_true rfl, Nat.le_of_ble_eq_true rfl⟩) (vQ_pV (U := ([] : va_W)) hI hE hF hZ hS hA hP hD) rfl rfl hl.1 rfl (lv_room (Nat.le_of_ble_eq_true rfl)) dL_isWell_180 ⟨Nat.le_of_ble_eq_true rfl, Nat.le_of_ble_eq_true rfl⟩) hP hD hS hA (fun r u H locs hk hP hD hS => ?_)
      rw [ofs_k hs (Or.inr ⟨rfl, rfl⟩) hI4] at hk
      subst hk
      refine lv_iload_n hx hb dL_isWell_183 rfl (lv_at hl 3 rfl) ?_
      refine lv_icmp_ne (tgt := 191) hx hb dL_isWell_184 (by decide) (fun z9 => absurd (congrArg nI (by rw [hfA])) z9) (fun _ => ?_)
      refine lv_iconst (v := 1) hx hb dL_isWell_187 (by decide) ?_
      refine vg_tp (nI 1) (by decide) ?_
      refine lv_goto (tgt := 192) hx hb dL_isWell_188 (by decide) ?_
      refine vg_tp 1 rfl ?_
      exact W.zret (v := 1) (ty := .boolean) hx hb hr rfl (fun t ht hW => ⟨⟨1, (), rfl, rfl, (by rw [ht]; exact hP), hD⟩, hS.F ht⟩) hS.2.2 dL_isWell_192
    | succ d ih =>
      intro p1 hp1 H locs ls hP hD hS hl
      refine lv_iload hx hb dL_isWell_11 (lv_at hl 6 rfl) ?_
      refine lv_iload_n hx hb dL_isWell_13 rfl (lv_at hl 2 rfl) ?_
      refine lv_icmp_ge (tgt := 161) hx hb dL_isWell_14 (by decide) (fun z9 => absurd z9 (fun q9 => absurd ((nI_leI (a := 6) (b := p1) (by omega) (by omega)).mp q9) (by omega))) (fun _ => ?_)
      refine lv_iconst (v := 0) hx hb dL_isWell_17 (by decide) ?_
      refine vg_tp (nI 0) (by decide) ?_
      refine lv_istore (lv' := [(7, .int (nI 0)), (0, .ref vo), (1, .int (nI s0)), (2, .int (nI 6)), (3, .int (nI (sT fA p1))), (4, .int (nI (sT fF p1))), (5, .int (nI 1)), (6, .int (nI p1))]) hx hb dL_isWell_18 hl (by decide) rfl (fun ls hl => ?_)
      obtain ⟨gA, hgA⟩ : ∃ g : Nat → Nat, g = fun q => (if μ 3 (100 * s0 + 10 * p1 + q) = 0 then 0 else 1) := ⟨_, rfl⟩
      obtain ⟨gF, hgF⟩ : ∃ g : Nat → Nat, g = fun q => (if μ 4 (100 * s0 + 10 * p1 + q) = 0 then 0 else 1) := ⟨_, rfl⟩
      have inner : ∀ (d2 q1 : Nat), q1 + d2 = 6 → ∀ (H : Heap) (locs : List Loc) (ls : Array Slot), va_P D vwCl w H → va_D (va_A w s.heap.size) w → va_S (va_A w s.heap.size) s.heap H locs → lv_has ls 10 [(0, .ref vo), (1, .int (nI s0)), (2, .int (nI 6)), (3, .int (nI (sT fA p1 + sT gA q1))), (4, .int (nI (sT fF p1 + sT gF q1))), (5, .int (nI 1)), (6, .int (nI p1)), (7, .int (nI q1))] → W p l e (headSpec wsL_isWell ({ frames := 5, cells := 0, slots := 0, locals := 150 })).room s m ([.ref vo, .int (nI s0), .int (nI 6)] : List Value).toArray below meth c H locs 0 0 (MQ below (vg_Qi (S := Unit) D s.heap.size w (fun r _ => r = 1) (fun _ => w)) ([.ref vo, .int (nI s0), .int (nI 6)] : List Value).toArray s 0 0 (va_A w s.heap.size)) (F0 m 20 ls []) := by
        intro d2
        induction d2 with
        | zero =>
          intro q1 hq1 H locs ls hP hD hS hl
          have e6 : q1 = 6 := by omega
          subst e6
          refine lv_iload hx hb dL_isWell_20 (lv_at hl 7 rfl) ?_
          refine lv_iload_n hx hb dL_isWell_22 rfl (lv_at hl 2 rfl) ?_
          refine lv_icmp_ge (tgt := 155) hx hb dL_isWell_23 (by decide) (fun _ => ?_) (fun z9 => absurd ((nI_leI (a := 6) (b := 6) (by omega) (by omega)).mpr (by omega)) z9)
          refine lv_iinc (v := nI (p1 + 1)) (lv' := [(6, .int (nI (p1 + 1))), (0, .ref vo), (1, .int (nI s0)), (2, .int (nI 6)), (3, .int (nI (sT fA p1 + sT gA 6))), (4, .int (nI (sT fF p1 + sT gF 6))), (5, .int (nI 1)), (7, .int (nI 6))]) hx hb dL_isWell_155 hl (k := 6) rfl (by rw [show Int32.ofInt 1 = nI 1 from by decide, nI_add]) (by decide) rfl (fun ls hl => ?_)
          refine lv_goto (tgt := 11) hx hb dL_isWell_158 (by decide) ?_
          have eA : sT fA p1 + sT gA 6 = sT fA (p1 + 1) := by subst hgA; subst hfA; rfl
          have eF : sT fF p1 + sT gF 6 = sT fF (p1 + 1) := by subst hgF; subst hfF; rfl
          rw [eA, eF] at hl
          exact ih (p1 + 1) (by omega) H locs ls hP hD hS (lv_sub hl [1, 2, 3, 4, 5, 6, 0] rfl)
        | succ d2 ih2 =>
          intro q1 hq1 H locs ls hP hD hS hl
          obtain ⟨w1, w2, w3⟩ := bt_well hI4 hJF (show p1 < 6 by omega) (show q1 < 6 by omega)
          have w4 := bt_lt μ s0 p1 q1
          have w5 := bt_lt μ s0 q1 p1
          have w6 := bt_m (μ := μ) (s := s0) (p := p1) (q := q1)
          refine lv_iload hx hb dL_isWell_20 (lv_at hl 7 rfl) ?_
          refine lv_iload_n hx hb dL_isWell_22 rfl (lv_at hl 2 rfl) ?_
          refine lv_icmp_ge (tgt := 155) hx hb dL_isWell_23 (by decide) (fun z9 => absurd z9 (fun q9 => absurd ((nI_leI (a := 6) (b := q1) (by omega) (by omega)).mp q9) (by omega))) (fun _ => ?_)
          refine lv_aload_n hx hb dL_isWell_26 rfl (lv_at hl 0 rfl) ?_
          refine lv_iload_n hx hb dL_isWell_27 rfl (lv_at hl 1 rfl) ?_
          refine lv_iload hx hb dL_isWell_28 (lv_at hl 6 rfl) ?_
          refine lv_iload hx hb dL_isWell_30 (lv_at hl 7 rfl) ?_
          refine vQ_r (U := ([] : va_W)) (va_runV (As := [.int (nI s0), .int (nI p1), .int (nI q1)]) (rest := []) ⟨hx, hb, hml, hown, hts⟩ (kN_between l hfl D cy H.size e0 mi vo 130 μ w hI (by omega) h6 hs (show p1 < 6 by omega) (show q1 < 6 by omega)) (cwV 3 hts gL_isWell_X4_between rfl rfl rfl (by decide +kernel) ⟨Nat.le_of_ble_eq_true rfl, Nat.le_of_ble_eq_true rfl⟩) (vQ_pV (U := ([] : va_W)) hI hE hF hZ hS hA hP hD) rfl rfl hl.1 rfl (lv_room (Nat.le_of_ble_eq_true rfl)) dL_isWell_32 ⟨Nat.le_of_ble_eq_true rfl, Nat.le_of_ble_eq_true rfl⟩) hP hD hS hA (fun r u H locs hk hP hD hS => ?_)
          rw [bt_R h6 hs (show p1 < 6 by omega) (show q1 < 6 by omega)] at hk
          subst hk
          refine lv_istore (lv' := [(8, .int (nI (bt μ s0 p1 q1))), (0, .ref vo), (1, .int (nI s0)), (2, .int (nI 6)), (3, .int (nI (sT fA p1 + sT gA q1))), (4, .int (nI (sT fF p1 + sT gF q1))), (5, .int (nI 1)), (6, .int (nI p1)), (7, .int (nI q1))]) hx hb dL_isWell_35 hl (by decide) rfl (fun ls hl => ?_)
          refine lv_aload_n hx hb dL_isWell_37 rfl (lv_at hl 1 rfl) ?_
          refine lv_iload_n hx hb dL_isWell_38 rfl (lv_at hl 2 rfl) ?_
          refine lv_iload hx hb dL_isWell_39 (lv_at hl 8 rfl) ?_
          refine lv_iload hx hb dL_isWell_41 (lv_at hl 7 rfl) ?_
          refine vQ_r (U := ([] : va_W)) (va_runV (As := [.int (nI s0), .int (nI q1), .int (nI p1)]) (rest := []) ⟨hx, hb, hml, hown, hts⟩ (kN_between l hfl D cy H.size e0 mi vo 130 μ w hI (by omega) h6 hs (show q1 < 6 by omega) (show p1 < 6 by omega)) (cwV 3 hts gL_isWell_X4_between rfl rfl rfl (by decide +kernel) ⟨Nat.le_of_ble_eq_true rfl, Nat.le_of_ble_eq_true rfl⟩) (vQ_pV (U := ([] : va_W)) hI hE hF hZ hS hA hP hD) rfl rfl hl.1 rfl (lv_room (Nat.le_of_ble_eq_true rfl)) dL_isWell_43 ⟨Nat.le_of_ble_eq_true rfl, Nat.le_of_ble_eq_true rfl⟩) hP hD hS hA (fun r u H locs hk hP hD hS => ?_)
          rw [bt_R h6 hs (show q1 < 6 by omega) (show p1 < 6 by omega)] at hk
          subst hk
          refine lv_istore (lv' := [(9, .int (nI (bt μ s0 q1 p1))), (8, .int (nI (bt μ s0 p1 q1))), (0, .ref vo), (1, .int (nI s0)), (2, .int (nI 6)), (3, .int (nI (sT fA p1 + sT gA q1))), (4, .int (nI (sT fF p1 + sT gF q1))), (5, .int (nI 1)), (6, .int (nI p1)), (7, .int (nI q1))]) hx hb dL_isWell_46 hl (by decide) rfl (fun ls hl => ?_)
          refine lv_iload hx hb dL_isWell_48 (lv_at hl 7 rfl) ?_
          refine lv_if_eq (tgt := 112) hx hb dL_isWell_50 (by decide) (fun z9 => absurd z9 (fun q9 => absurd ((nI_eq (a := 1) (b := 0) (by omega) (by omega)).mp q9) (by omega))) (fun _ => ?_)
          refine lv_iload hx hb dL_isWell_53 (lv_at hl 1 rfl) ?_
          refine lv_if_lt (tgt := 112) hx hb dL_isWell_55 (by decide) (fun z9 => absurd z9 (nI_pos (by omega))) (fun _ => ?_)
          refine lv_iload hx hb dL_isWell_58 (lv_at hl 1 rfl) ?_
          refine lv_bipush (v := 7) hx hb dL_isWell_60 (by decide) ?_
          refine vg_tp (nI 7) (by decide) ?_
          refine lv_icmp_ge (tgt := 112) hx hb dL_isWell_62 (by decide) (fun z9 => absurd z9 (fun q9 => absurd ((nI_leI (a := 7) (b := bt μ s0 p1 q1) (by omega) (by omega)).mp q9) (by omega))) (fun _ => ?_)
          refine lv_iload hx hb dL_isWell_65 (lv_at hl 1 rfl) ?_
          refine lv_iconst (v := 4) hx hb dL_isWell_67 (by decide) ?_
          refine vg_tp (nI 4) (by decide) ?_
          refine lv_irem hx hb dL_isWell_68 (by decide) ?_
          refine vg_tp (nI ((bt μ s0 p1 q1) % 4)) (pk_rem (by omega) (by omega) (by omega)) ?_
          refine lv_iconst (v := 3) hx hb dL_isWell_69 (by decide) ?_
          refine vg_tp (nI 3) (by decide) ?_
          refine lv_icmp_eq (tgt := 112) hx hb dL_isWell_70 (by decide) (fun z9 => absurd z9 (fun q9 => absurd ((nI_eq (a := (bt μ s0 p1 q1) % 4) (b := 3) (by omega) (by omega)).mp q9) (by omega))) (fun _ => ?_)
          refine lv_iload hx hb dL_isWell_73 (lv_at hl 1 rfl) ?_
          refine lv_iconst (v := 4) hx hb dL_isWell_75 (by decide) ?_
          refine vg_tp (nI 4) (by decide) ?_
          have J108 : W p l e (headSpec wsL_isWell ({ frames := 5, cells := 0, slots := 0, locals := 150 })).room s m ([.ref vo, .int (nI s0), .int (nI 6)] : List Value).toArray below meth c H locs 0 0 (MQ below (vg_Qi (S := Unit) D s.heap.size w (fun r _ => r = 1) (fun _ => w)) ([.ref vo, .int (nI s0), .int (nI 6)] : List Value).toArray s 0 0 (va_A w s.heap.size)) (F0 m 108 ls []) := by
            refine lv_iconst (v := 1) hx hb dL_isWell_108 (by decide) ?_
            refine vg_tp (nI 1) (by decide) ?_
            refine lv_goto (tgt := 113) hx hb dL_isWell_109 (by decide) ?_
            refine lv_istore (lv' := [(5, .int (nI 1)), (9, .int (nI (bt μ s0 q1 p1))), (8, .int (nI (bt μ s0 p1 q1))), (0, .ref vo), (1, .int (nI s0)), (2, .int (nI 6)), (3, .int (nI (sT fA p1 + sT gA q1))), (4, .int (nI (sT fF p1 + sT gF q1))), (6, .int (nI p1)), (7, .int (nI q1))]) hx hb dL_isWell_113 hl (by decide) rfl (fun ls hl => ?_)
            refine lv_iload_n hx hb dL_isWell_115 rfl (lv_at hl 6 rfl) ?_
            refine lv_iload hx hb dL_isWell_116 (lv_at hl 2 rfl) ?_
            refine lv_iconst (v := 4) hx hb dL_isWell_118 (by decide) ?_
            refine vg_tp (nI 4) (by decide) ?_
            refine lv_irem hx hb dL_isWell_119 (by decide) ?_
            refine vg_tp (nI ((bt μ s0 p1 q1) % 4)) (pk_rem (by omega) (by omega) (by omega)) ?_
            refine lv_iconst (v := 1) hx hb dL_isWell_120 (by decide) ?_
            refine vg_tp (nI 1) (by decide) ?_
            refine lv_icmp_ne (tgt := 128) hx hb dL_isWell_121 (by decide) (fun c9 => ?_) (fun c9 => ?_)
            · have c9 : ¬ ((bt μ s0 p1 q1) % 4 = 1) := fun q9 => c9 ((nI_eq (a := (bt μ s0 p1 q1) % 4) (b := 1) (by omega) (by omega)).mpr q9)
              refine lv_iconst (v := 0) hx hb dL_isWell_128 (by decide) ?_
              refine vg_tp (nI 0) (by decide) ?_
              have d9 : μ 3 (100 * s0 + 10 * p1 + q1) = 0 := Classical.byContradiction (fun z => c9 (w3.mpr z))
              refine vg_tp (nI (gA q1)) (by rw [hgA]; exact congrArg nI (if_pos d9).symm) ?_
              refine lv_iadd hx hb dL_isWell_129 ?_
              refine vg_tp (nI (sT fA p1 + sT gA q1 + (gA q1))) (nI_add _ _) ?_
              refine lv_istore_n (lv' := [(3, .int (nI (sT fA p1 + sT gA q1 + (gA q1)))), (5, .int (nI 1)), (9, .int (nI (bt μ s0 q1 p1))), (8, .int (nI (bt μ s0 p1 q1))), (0, .ref vo), (1, .int (nI s0)), (2, .int (nI 6)), (4, .int (nI (sT fF p1 + sT gF q1))), (6, .int (nI p1)), (7, .int (nI q1))]) hx hb dL_isWell_130 rfl hl (by decide) rfl (fun ls hl => ?_)
              refine lv_iload hx hb dL_isWell_131 (lv_at hl 7 rfl) ?_
              refine lv_iload hx hb dL_isWell_133 (lv_at hl 3 rfl) ?_
              refine lv_iconst (v := 4) hx hb dL_isWell_135 (by decide) ?_
              refine vg_tp (nI 4) (by decide) ?_
              refine lv_irem hx hb dL_isWell_136 (by decide) ?_
              refine vg_tp (nI ((bt μ s0 p1 q1) % 4)) (pk_rem (by omega) (by omega) (by omega)) ?_
              refine lv_iconst (v := 2) hx hb dL_isWell_137 (by decide) ?_
              refine vg_tp (nI 2) (by decide) ?_
              refine lv_icmp_ne (tgt := 145) hx hb dL_isWell_138 (by decide) (fun c9 => ?_) (fun c9 => ?_)
              · have c9 : ¬ ((bt μ s0 p1 q1) % 4 = 2) := fun q9 => c9 ((nI_eq (a := (bt μ s0 p1 q1) % 4) (b := 2) (by omega) (by omega)).mpr q9)
                refine lv_iconst (v := 0) hx hb dL_isWell_145 (by decide) ?_
                refine vg_tp (nI 0) (by decide) ?_
                have d8 : μ 4 (100 * s0 + 10 * p1 + q1) = 0 := Classical.byContradiction (fun z => c9 (bt_f.mpr z))
                refine vg_tp (nI (gF q1)) (by rw [hgF]; exact congrArg nI (if_pos d8).symm) ?_
                refine lv_iadd hx hb dL_isWell_146 ?_
                refine vg_tp (nI (sT fF p1 + sT gF q1 + (gF q1))) (nI_add _ _) ?_
                refine lv_istore (lv' := [(4, .int (nI (sT fF p1 + sT gF q1 + (gF q1)))), (3, .int (nI (sT fA p1 + sT gA q1 + (gA q1)))), (5, .int (nI 1)), (9, .int (nI (bt μ s0 q1 p1))), (8, .int (nI (bt μ s0 p1 q1))), (0, .ref vo), (1, .int (nI s0)), (2, .int (nI 6)), (6, .int (nI p1)), (7, .int (nI q1))]) hx hb dL_isWell_147 hl (by decide) rfl (fun ls hl => ?_)
                refine lv_iinc (v := nI (q1 + 1)) (lv' := [(7, .int (nI (q1 + 1))), (4, .int (nI (sT fF p1 + sT gF q1 + (gF q1)))), (3, .int (nI (sT fA p1 + sT gA q1 + (gA q1)))), (5, .int (nI 1)), (9, .int (nI (bt μ s0 q1 p1))), (8, .int (nI (bt μ s0 p1 q1))), (0, .ref vo), (1, .int (nI s0)), (2, .int (nI 6)), (6, .int (nI p1))]) hx hb dL_isWell_149 hl (k := 9) rfl (by rw [show Int32.ofInt 1 = nI 1 from by decide, nI_add]) (by decide) rfl (fun ls hl => ?_)
                refine lv_goto (tgt := 20) hx hb dL_isWell_152 (by decide) ?_
                have eA : sT fA p1 + sT gA q1 + gA q1 = sT fA p1 + sT gA (q1 + 1) := (show _ = sT fA p1 + (sT gA q1 + gA q1) from Nat.add_assoc _ _ _)
                have eF : sT fF p1 + sT gF q1 + gF q1 = sT fF p1 + sT gF (q1 + 1) := (show _ = sT fF p1 + (sT gF q1 + gF q1) from Nat.add_assoc _ _ _)
                rw [eA, eF] at hl
                exact ih2 (q1 + 1) (by omega) H locs ls hP hD hS (lv_sub hl [6, 7, 8, 2, 1, 3, 9, 0] rfl)
              · have c9 : (bt μ s0 p1 q1) % 4 = 2 := (nI_eq (a := (bt μ s0 p1 q1) % 4) (b := 2) (by omega) (by omega)).mp c9
                refine lv_iconst (v := 1) hx hb dL_isWell_141 (by decide) ?_
                refine vg_tp (nI 1) (by decide) ?_
                refine lv_goto (tgt := 146) hx hb dL_isWell_142 (by decide) ?_
                have d8 : ¬ μ 4 (100 * s0 + 10 * p1 + q1) = 0 := bt_f.mp c9
                refine vg_tp (nI (gF q1)) (by rw [hgF]; exact congrArg nI (if_neg d8).symm) ?_
                refine lv_iadd hx hb dL_isWell_146 ?_
                refine vg_tp (nI (sT fF p1 + sT gF q1 + (gF q1))) (nI_add _ _) ?_
                refine lv_istore (lv' := [(4, .int (nI (sT fF p1 + sT gF q1 + (gF q1)))), (3, .int (nI (sT fA p1 + sT gA q1 + (gA q1)))), (5, .int (nI 1)), (9, .int (nI (bt μ s0 q1 p1))), (8, .int (nI (bt μ s0 p1 q1))), (0, .ref vo), (1, .int (nI s0)), (2, .int (nI 6)), (6, .int (nI p1)), (7, .int (nI q1))]) hx hb dL_isWell_147 hl (by decide) rfl (fun ls hl => ?_)
                refine lv_iinc (v := nI (q1 + 1)) (lv' := [(7, .int (nI (q1 + 1))), (4, .int (nI (sT fF p1 + sT gF q1 + (gF q1)))), (3, .int (nI (sT fA p1 + sT gA q1 + (gA q1)))), (5, .int (nI 1)), (9, .int (nI (bt μ s0 q1 p1))), (8, .int (nI (bt μ s0 p1 q1))), (0, .ref vo), (1, .int (nI s0)), (2, .int (nI 6)), (6, .int (nI p1))]) hx hb dL_isWell_149 hl (k := 9) rfl (by rw [show Int32.ofInt 1 = nI 1 from by decide, nI_add]) (by decide) rfl (fun ls hl => ?_)
                refine lv_goto (tgt := 20) hx hb dL_isWell_152 (by decide) ?_
                have eA : sT fA p1 + sT gA q1 + gA q1 = sT fA p1 + sT gA (q1 + 1) := (show _ = sT fA p1 + (sT gA q1 + gA q1) from Nat.add_assoc _ _ _)
                have eF : sT fF p1 + sT gF q1 + gF q1 = sT fF p1 + sT gF (q1 + 1) := (show _ = sT fF p1 + (sT gF q1 + gF q1) from Nat.add_assoc _ _ _)
                rw [eA, eF] at hl
                exact ih2 (q1 + 1) (by omega) H locs ls hP hD hS (lv_sub hl [6, 7, 8, 2, 1, 3, 9, 0] rfl)
            · have c9 : (bt μ s0 p1 q1) % 4 = 1 := (nI_eq (a := (bt μ s0 p1 q1) % 4) (b := 1) (by omega) (by omega)).mp c9
              refine lv_iconst (v := 1) hx hb dL_isWell_124 (by decide) ?_
              refine vg_tp (nI 1) (by decide) ?_
              refine lv_goto (tgt := 129) hx hb dL_isWell_125 (by decide) ?_
              have d9 : ¬ μ 3 (100 * s0 + 10 * p1 + q1) = 0 := w3.mp c9
              refine vg_tp (nI (gA q1)) (by rw [hgA]; exact congrArg nI (if_neg d9).symm) ?_
              refine lv_iadd hx hb dL_isWell_129 ?_
              refine vg_tp (nI (sT fA p1 + sT gA q1 + (gA q1))) (nI_add _ _) ?_
              refine lv_istore_n (lv' := [(3, .int (nI (sT fA p1 + sT gA q1 + (gA q1)))), (5, .int (nI 1)), (9, .int (nI (bt μ s0 q1 p1))), (8, .int (nI (bt μ s0 p1 q1))), (0, .ref vo), (1, .int (nI s0)), (2, .int (nI 6)), (4, .int (nI (sT fF p1 + sT gF q1))), (6, .int (nI p1)), (7, .int (nI q1))]) hx hb dL_isWell_130 rfl hl (by decide) rfl (fun ls hl => ?_)
              refine lv_iload hx hb dL_isWell_131 (lv_at hl 7 rfl) ?_
              refine lv_iload hx hb dL_isWell_133 (lv_at hl 3 rfl) ?_
              refine lv_iconst (v := 4) hx hb dL_isWell_135 (by decide) ?_
              refine vg_tp (nI 4) (by decide) ?_
              refine lv_irem hx hb dL_isWell_136 (by decide) ?_
              refine vg_tp (nI ((bt μ s0 p1 q1) % 4)) (pk_rem (by omega) (by omega) (by omega)) ?_
              refine lv_iconst (v := 2) hx hb dL_isWell_137 (by decide) ?_
              refine vg_tp (nI 2) (by decide) ?_
              refine lv_icmp_ne (tgt := 145) hx hb dL_isWell_138 (by decide) (fun c9 => ?_) (fun c9 => ?_)
              · have c9 : ¬ ((bt μ s0 p1 q1) % 4 = 2) := fun q9 => c9 ((nI_eq (a := (bt μ s0 p1 q1) % 4) (b := 2) (by omega) (by omega)).mpr q9)
                refine lv_iconst (v := 0) hx hb dL_isWell_145 (by decide) ?_
                refine vg_tp (nI 0) (by decide) ?_
                have d8 : μ 4 (100 * s0 + 10 * p1 + q1) = 0 := Classical.byContradiction (fun z => c9 (bt_f.mpr z))
                refine vg_tp (nI (gF q1)) (by rw [hgF]; exact congrArg nI (if_pos d8).symm) ?_
                refine lv_iadd hx hb dL_isWell_146 ?_
                refine vg_tp (nI (sT fF p1 + sT gF q1 + (gF q1))) (nI_add _ _) ?_
                refine lv_istore (lv' := [(4, .int (nI (sT fF p1 + sT gF q1 + (gF q1)))), (3, .int (nI (sT fA p1 + sT gA q1 + (gA q1)))), (5, .int (nI 1)), (9, .int (nI (bt μ s0 q1 p1))), (8, .int (nI (bt μ s0 p1 q1))), (0, .ref vo), (1, .int (nI s0)), (2, .int (nI 6)), (6, .int (nI p1)), (7, .int (nI q1))]) hx hb dL_isWell_147 hl (by decide) rfl (fun ls hl => ?_)
                refine lv_iinc (v := nI (q1 + 1)) (lv' := [(7, .int (nI (q1 + 1))), (4, .int (nI (sT fF p1 + sT gF q1 + (gF q1)))), (3, .int (nI (sT fA p1 + sT gA q1 + (gA q1)))), (5, .int (nI 1)), (9, .int (nI (bt μ s0 q1 p1))), (8, .int (nI (bt μ s0 p1 q1))), (0, .ref vo), (1, .int (nI s0)), (2, .int (nI 6)), (6, .int (nI p1))]) hx hb dL_isWell_149 hl (k := 9) rfl (by rw [show Int32.ofInt 1 = nI 1 from by decide, nI_add]) (by decide) rfl (fun ls hl => ?_)
                refine lv_goto (tgt := 20) hx hb dL_isWell_152 (by decide) ?_
                have eA : sT fA p1 + sT gA q1 + gA q1 = sT fA p1 + sT gA (q1 + 1) := (show _ = sT fA p1 + (sT gA q1 + gA q1) from Nat.add_assoc _ _ _)
                have eF : sT fF p1 + sT gF q1 + gF q1 = sT fF p1 + sT gF (q1 + 1) := (show _ = sT fF p1 + (sT gF q1 + gF q1) from Nat.add_assoc _ _ _)
                rw [eA, eF] at hl
                exact ih2 (q1 + 1) (by omega) H locs ls hP hD hS (lv_sub hl [6, 7, 8, 2, 1, 3, 9, 0] rfl)
              · have c9 : (bt μ s0 p1 q1) % 4 = 2 := (nI_eq (a := (bt μ s0 p1 q1) % 4) (b := 2) (by omega) (by omega)).mp c9
                refine lv_iconst (v := 1) hx hb dL_isWell_141 (by decide) ?_
                refine vg_tp (nI 1) (by decide) ?_
                refine lv_goto (tgt := 146) hx hb dL_isWell_142 (by decide) ?_
                have d8 : ¬ μ 4 (100 * s0 + 10 * p1 + q1) = 0 := bt_f.mp c9
                refine vg_tp (nI (gF q1)) (by rw [hgF]; exact congrArg nI (if_neg d8).symm) ?_
                refine lv_iadd hx hb dL_isWell_146 ?_
                refine vg_tp (nI (sT fF p1 + sT gF q1 + (gF q1))) (nI_add _ _) ?_
                refine lv_istore (lv' := [(4, .int (nI (sT fF p1 + sT gF q1 + (gF q1)))), (3, .int (nI (sT fA p1 + sT gA q1 + (gA q1)))), (5, .int (nI 1)), (9, .int (nI (bt μ s0 q1 p1))), (8, .int (nI (bt μ s0 p1 q1))), (0, .ref vo), (1, .int (nI s0)), (2, .int (nI 6)), (6, .int (nI p1)), (7, .int (nI q1))]) hx hb dL_isWell_147 hl (by decide) rfl (fun ls hl => ?_)
                refine lv_iinc (v := nI (q1 + 1)) (lv' := [(7, .int (nI (q1 + 1))), (4, .int (nI (sT fF p1 + sT gF q1 + (gF q1)))), (3, .int (nI (sT fA p1 + sT gA q1 + (gA q1)))), (5, .int (nI 1)), (9, .int (nI (bt μ s0 q1 p1))), (8, .int (nI (bt μ s0 p1 q1))), (0, .ref vo), (1, .int (nI s0)), (2, .int (nI 6)), (6, .int (nI p1))]) hx hb dL_isWell_149 hl (k := 9) rfl (by rw [show Int32.ofInt 1 = nI 1 from by decide, nI_add]) (by decide) rfl (fun ls hl => ?_)
                refine lv_goto (tgt := 20) hx hb dL_isWell_152 (by decide) ?_
                have eA : sT fA p1 + sT gA q1 + gA q1 = sT fA p1 + sT gA (q1 + 1) := (show _ = sT fA p1 + (sT gA q1 + gA q1) from Nat.add_assoc _ _ _)
                have eF : sT fF p1 + sT gF q1 + gF q1 = sT fF p1 + sT gF (q1 + 1) := (show _ = sT fF p1 + (sT gF q1 + gF q1) from Nat.add_assoc _ _ _)
                rw [eA, eF] at hl
                exact ih2 (q1 + 1) (by omega) H locs ls hP hD hS (lv_sub hl [6, 7, 8, 2, 1, 3, 9, 0] rfl)
          have J96 : W p l e (headSpec wsL_isWell ({ frames := 5, cells := 0, slots := 0, locals := 150 })).room s m ([.ref vo, .int (nI s0), .int (nI 6)] : List Value).toArray below meth c H locs 0 0 (MQ below (vg_Qi (S := Unit) D s.heap.size w (fun r _ => r = 1) (fun _ => w)) ([.ref vo, .int (nI s0), .int (nI 6)] : List Value).toArray s 0 0 (va_A w s.heap.size)) (F0 m 96 ls []) := by
            refine lv_iload hx hb dL_isWell_96 (lv_at hl 8 rfl) ?_
            refine lv_iload hx hb dL_isWell_98 (lv_at hl 9 rfl) ?_
            refine lv_icmp_ne (tgt := 108) hx hb dL_isWell_100 (by decide) (fun c7 => ?_) (fun c7 => ?_)
            · have c7 : ¬ (p1 = q1) := fun q9 => c7 ((nI_eq (a := p1) (b := q1) (by omega) (by omega)).mpr q9)
              exact J108
            · have c7 : p1 = q1 := (nI_eq (a := p1) (b := q1) (by omega) (by omega)).mp c7
              refine lv_iload hx hb dL_isWell_103 (lv_at hl 1 rfl) ?_
              refine lv_if_ne (tgt := 112) hx hb dL_isWell_105 (by decide) (fun z9 => absurd (by rw [w2 c7]; rfl) z9) (fun _ => ?_)
              exact J108
          refine lv_icmp_lt (tgt := 96) hx hb dL_isWell_76 (by decide) (fun c6 => ?_) (fun c6 => ?_)
          · have c6 : bt μ s0 p1 q1 < 4 := (nI_ltI (a := bt μ s0 p1 q1) (b := 4) (by omega) (by omega)).mp c6
            exact J96
          · have c6 : ¬ (bt μ s0 p1 q1 < 4) := fun q9 => c6 ((nI_ltI (a := bt μ s0 p1 q1) (b := 4) (by omega) (by omega)).mpr q9)
            have w7 := w1.resolve_left c6
            refine lv_iload hx hb dL_isWell_79 (lv_at hl 1 rfl) ?_
            refine lv_iconst (v := 4) hx hb dL_isWell_81 (by decide) ?_
            refine vg_tp (nI 4) (by decide) ?_
            refine lv_icmp_ne (tgt := 112) hx hb dL_isWell_82 (by decide) (fun z9 => absurd ((nI_eq (a := bt μ s0 p1 q1) (b := 4) (by omega) (by omega)).mpr (by omega)) z9) (fun _ => ?_)
            refine lv_iload hx hb dL_isWell_85 (lv_at hl 0 rfl) ?_
            refine lv_if_eq (tgt := 96) hx hb dL_isWell_87 (by decide) (fun c5 => ?_) (fun c5 => ?_)
            · have c5 : bt μ s0 q1 p1 = 0 := (nI_eq (a := bt μ s0 q1 p1) (b := 0) (by omega) (by omega)).mp c5
              exact J96
            · have c5 : ¬ (bt μ s0 q1 p1 = 0) := fun q9 => c5 ((nI_eq (a := bt μ s0 q1 p1) (b := 0) (by omega) (by omega)).mpr q9)
              have w8 := w7.2.resolve_left c5
              refine lv_iload hx hb dL_isWell_90 (lv_at hl 0 rfl) ?_
              refine lv_iconst (v := 4) hx hb dL_isWell_92 (by decide) ?_
              refine vg_tp (nI 4) (by decide) ?_
              refine lv_icmp_ne (tgt := 112) hx hb dL_isWell_93 (by decide) (fun z9 => absurd ((nI_eq (a := bt μ s0 q1 p1) (b := 4) (by omega) (by omega)).mpr (by omega)) z9) (fun _ => ?_)
              exact J96
      exact inner 6 0 (by omega) H locs ls hP hD hS (lv_sub hl [1, 2, 3, 4, 5, 6, 7, 0] rfl)
  refine lv_iconst (v := 0) hx hb dL_isWell_0 (by decide) ?_
  refine vg_tp (nI 0) (by decide) ?_
  refine lv_istore_n (lv' := [(3, .int (nI 0)), (0, .ref vo), (1, .int (nI s0)), (2, .int (nI 6))]) hx hb dL_isWell_1 rfl hl (by decide) rfl (fun ls hl => ?_)
  refine lv_iconst (v := 0) hx hb dL_isWell_2 (by decide) ?_
  refine vg_tp (nI 0) (by decide) ?_
  refine lv_istore (lv' := [(4, .int (nI 0)), (3, .int (nI 0)), (0, .ref vo), (1, .int (nI s0)), (2, .int (nI 6))]) hx hb dL_isWell_3 hl (by decide) rfl (fun ls hl => ?_)
  refine lv_iconst (v := 1) hx hb dL_isWell_5 (by decide) ?_
  refine vg_tp (nI 1) (by decide) ?_
  refine lv_istore (lv' := [(5, .int (nI 1)), (4, .int (nI 0)), (3, .int (nI 0)), (0, .ref vo), (1, .int (nI s0)), (2, .int (nI 6))]) hx hb dL_isWell_6 hl (by decide) rfl (fun ls hl => ?_)
  refine lv_iconst (v := 0) hx hb dL_isWell_8 (by decide) ?_
  refine vg_tp (nI 0) (by decide) ?_
  refine lv_istore (lv' := [(6, .int (nI 0)), (5, .int (nI 1)), (4, .int (nI 0)), (3, .int (nI 0)), (0, .ref vo), (1, .int (nI s0)), (2, .int (nI 6))]) hx hb dL_isWell_9 hl (by decide) rfl (fun ls hl => ?_)
  exact outer 6 0 (by omega) s.heap [] ls hP hD hS (lv_sub hl [4, 5, 6, 3, 2, 1, 0] rfl)
