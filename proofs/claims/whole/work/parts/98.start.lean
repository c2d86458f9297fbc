/-! the law's loop and its start -/
theorem CI_mn {cy : Nat → ClassId} {e0 vo n : Nat} {μ : Nat → Nat → Int32} {w : va_W} (h : CI cy e0 vo n μ w) : CI cy e0 vo (n + 1) μ w := by
  have e : va_up μ 0 (μ 0) = μ := by
    funext j
    by_cases c : j = 0
    · rw [c, va_up_self]
    · rw [va_up_ne _ _ c]
  have h2 := CI_thr h (μ 0)
  rw [e] at h2
  exact h2
theorem ex_lt : ∀ k : Fin 5, nI k.val - 5 < nI (5 * 0) := by decide +kernel
theorem L_5 {L n : Nat} (hL : L ≤ 2560) (h1 : 5 * n ≤ L) : (5 * n + 5 ≤ L → ¬ nI L - 5 < nI (5 * n)) ∧ (¬ 5 * n + 5 ≤ L → nI L - 5 < nI (5 * n)) := by
  constructor
  · intro h
    rw [show nI L - 5 = nI (L - 5) from pk_sub (a := L) (b := 5) (by omega)]
    exact Int32.not_lt.mpr (nI_le (by omega) (by omega))
  · intro h
    by_cases c : 5 ≤ L
    · rw [show nI L - 5 = nI (L - 5) from pk_sub (a := L) (b := 5) c, Int32.lt_iff_toInt_lt, nI_toInt (by omega), nI_toInt (by omega)]
      omega
    · have hn : n = 0 := by omega
      subst hn
      exact ex_lt ⟨L, by omega⟩
set_option maxHeartbeats 4000000 in
set_option maxRecDepth 100000 in
theorem law_loop {p : Program} {l : Launch} {e : Env} {s : State} {m : MethodId} {below : List Frame} {meth : Method} {c : Code} {b L : Nat} {xs : Nat → Int32} {D : va_G} {cy : Nat → ClassId} {e0 mi vo mo oa : Nat} {ad : Nat → Nat} (hLE : LE p l s m c b L xs (fun q : Nat => s.heap.size ≤ q) D cy e0 mi) (hr : meth.sig.returnType = ret) (hlocks : meth.locks = false) :
    ∀ (k n : Nat) (μ : Nat → Nat → Int32) (f : Nat → Int64) (w : va_W) (H : Heap) (locs : List Loc) (ls : Array Slot) (cells slots : Nat), 5 * n ≤ L → L + 1 ≤ 5 * n + 5 * k → cells + 12 * (512 - n) ≤ 601024 → slots + 12351 * (512 - n) ≤ 7293033 → LW s (fun q : Nat => s.heap.size ≤ q) D cy e0 vo mo oa n ad μ f w H locs → lv_has ls 7 [(0, .ref b), (1, .ref vo), (2, .ref mo), (3, .ref oa), (4, .int (nI (5 * n)))] → W p l e room_1 s m #[Value.ref b] below meth c H locs cells slots (lw_Z below #[Value.ref b] s) (F0 m 23 ls []) := by
  intro k
  induction k with
  | zero =>
    intro n μ f w H locs ls cells slots h1 h2
    exact absurd h2 (by omega)
  | succ k ih =>
    intro n μ f w H locs ls cells slots h1 h2 hc hs hW hl
    obtain ⟨⟨hx, hb, hml, hown, hts⟩, ⟨hX, hbl, hL, hfl, hA, hbA⟩, hE, hF, hZ, hN⟩ := id hLE
    obtain ⟨hP, hD, hS, hI⟩ := id hW
    obtain ⟨q1, q2⟩ := L_5 hL h1
    refine lv_iload hx hb dL_law_23 (lv_at hl 4 rfl) ?_
    refine lv_aload_n hx hb dL_law_25 rfl (lv_at hl 0 rfl) ?_
    refine va_slen hx hb hX hbl hbA hS dL_law_26 ?_
    refine lv_iconst (v := 5) hx hb dL_law_27 (by decide) ?_
    refine lv_isub hx hb dL_law_28 ?_
    refine vg_tp (nI L - 5) rfl ?_
    by_cases h5 : 5 * n + 5 ≤ L
    · refine lv_icmp_gt (tgt := 1220) hx hb dL_law_29 (by decide) (fun z => absurd z (q1 h5)) (fun _ => ?_)
      have hn : n < 512 := by omega
      have hc2 : cells + 12 ≤ room_1.cells := by show cells + 12 ≤ 601024; omega
      have hs2 : slots + 12351 ≤ room_1.slots := by show slots + 12351 ≤ 7293033; omega
      have next : ∀ (μ' : Nat → Nat → Int32) (f' : Nat → Int64) (w' : va_W) (H' : Heap) (locs' : List Loc) (ls' : Array Slot), LW s (fun q : Nat => s.heap.size ≤ q) D cy e0 vo mo oa (n + 1) ad μ' f' w' H' locs' → lv_has ls' 7 [(0, .ref b), (1, .ref vo), (2, .ref mo), (3, .ref oa), (4, .int (nI (5 * n)))] → W p l e room_1 s m #[Value.ref b] below meth c H' locs' (cells + 12) (slots + 12351) (lw_Z below #[Value.ref b] s) (F0 m 1214 ls' []) := by
        intro μ' f' w' H' locs' ls' hW' hl'
        refine lv_iinc (v := nI (5 * (n + 1))) (lv' := [(4, .int (nI (5 * (n + 1)))), (0, .ref b), (1, .ref vo), (2, .ref mo), (3, .ref oa)]) hx hb dL_law_1214 hl' (k := 4) rfl (by rw [show Int32.ofInt 5 = nI 5 from by decide, nI_add]; rfl) (by decide) rfl (fun ls hl => ?_)
        refine lv_goto (tgt := 23) hx hb dL_law_1217 (by decide) ?_
        exact ih (n + 1) μ' f' w' H' locs' ls _ _ (by omega) (by omega) (by omega) (by omega) hW' (lv_sub hl [1, 2, 3, 4, 0] rfl)
      refine lv_aload_n hx hb dL_law_32 rfl (lv_at hl 0 rfl) ?_
      refine lv_iload hx hb dL_law_33 (lv_at hl 4 rfl) ?_
      refine va_sld hx hb hX hbl hbA hS (vp_in_nI (by omega) (by omega)) dL_law_35 ?_
      refine lv_bipush (v := 31) hx hb dL_law_36 (by decide) ?_
      refine lv_iand hx hb dL_law_38 ?_
      refine lv_topi (fun v ev => ?_)
      by_cases hout : v.toInt < 0 ∨ 16 < v.toInt
      · refine lv_tableOut (tgt := 1214) hx hb dL_law_39 hout (by decide) ?_
        refine W.widen (k := cells + 12) (n := slots + 12351) (by omega) (by omega) ?_
        exact next μ f w H locs ls ⟨hP, hD, hS, CI_mn hI⟩ hl
      · obtain ⟨j, hj, ej⟩ : ∃ j, j < 17 ∧ v = nI j := ⟨v.toInt.toNat, by omega, by apply Int32.toInt_inj.mp; rw [nI_toInt (by omega)]; omega⟩
        rcases (show j = 0 ∨ j = 1 ∨ j = 2 ∨ j = 3 ∨ j = 4 ∨ j = 5 ∨ j = 6 ∨ j = 7 ∨ j = 8 ∨ j = 9 ∨ j = 10 ∨ j = 11 ∨ j = 12 ∨ j = 13 ∨ j = 14 ∨ j = 15 ∨ j = 16 by omega) with rfl | rfl | rfl | rfl | rfl | rfl | rfl | rfl | rfl | rfl | rfl | rfl | rfl | rfl | rfl | rfl | rfl
        · refine vg_tp (nI 0) ej ?_
          refine lv_tableIn (off := 81) (tgt := 120) hx hb dL_law_39 (by decide +kernel) (by decide +kernel) (by decide +kernel) (by decide) ?_
          exact kC_person hLE hW hn h5 hl hc2 hs2 next
        · refine vg_tp (nI 1) ej ?_
          refine lv_tableIn (off := 137) (tgt := 176) hx hb dL_law_39 (by decide +kernel) (by decide +kernel) (by decide +kernel) (by decide) ?_
          exact kC_follow hLE hW hn h5 hl hc2 hs2 next
        · refine vg_tp (nI 2) ej ?_
          refine lv_tableIn (off := 185) (tgt := 224) hx hb dL_law_39 (by decide +kernel) (by decide +kernel) (by decide +kernel) (by decide) ?_
          exact kC_answer hLE hW hn h5 hl hc2 hs2 next
        · refine vg_tp (nI 3) ej ?_
          refine lv_tableIn (off := 261) (tgt := 300) hx hb dL_law_39 (by decide +kernel) (by decide +kernel) (by decide +kernel) (by decide) ?_
          exact kC_leave hLE hW hn h5 hl hc2 hs2 next
        · refine vg_tp (nI 4) ej ?_
          refine lv_tableIn (off := 309) (tgt := 348) hx hb dL_law_39 (by decide +kernel) (by decide +kernel) (by decide +kernel) (by decide) ?_
          exact kC_block hLE hW hn h5 hl hc2 hs2 next
        · refine vg_tp (nI 5) ej ?_
          refine lv_tableIn (off := 385) (tgt := 424) hx hb dL_law_39 (by decide +kernel) (by decide +kernel) (by decide +kernel) (by decide) ?_
          exact kC_alias hLE hW hn h5 hl hc2 hs2 next
        · refine vg_tp (nI 6) ej ?_
          refine lv_tableIn (off := 433) (tgt := 472) hx hb dL_law_39 (by decide +kernel) (by decide +kernel) (by decide +kernel) (by decide) ?_
          exact kC_move hLE hW hn h5 hl hc2 hs2 next
        · refine vg_tp (nI 7) ej ?_
          refine lv_tableIn (off := 501) (tgt := 540) hx hb dL_law_39 (by decide +kernel) (by decide +kernel) (by decide +kernel) (by decide) ?_
          exact kC_post hLE hW hn h5 hl hc2 hs2 next
        · refine vg_tp (nI 8) ej ?_
          refine lv_tableIn (off := 593) (tgt := 632) hx hb dL_law_39 (by decide +kernel) (by decide +kernel) (by decide +kernel) (by decide) ?_
          exact kC_delete hLE hW hn h5 hl hc2 hs2 next
        · refine vg_tp (nI 9) ej ?_
          refine lv_tableIn (off := 649) (tgt := 688) hx hb dL_law_39 (by decide +kernel) (by decide +kernel) (by decide +kernel) (by decide) ?_
          exact kC_boost hLE hW hn h5 hl hc2 hs2 next
        · refine vg_tp (nI 10) ej ?_
          refine lv_tableIn (off := 697) (tgt := 736) hx hb dL_law_39 (by decide +kernel) (by decide +kernel) (by decide +kernel) (by decide) ?_
          exact kC_deliver hLE hW hn h5 hl hc2 hs2 next
        · refine vg_tp (nI 11) ej ?_
          refine lv_tableIn (off := 753) (tgt := 792) hx hb dL_law_39 (by decide +kernel) (by decide +kernel) (by decide +kernel) (by decide) ?_
          exact kC_repeat hLE hW hn h5 hl hc2 hs2 next
        · refine vg_tp (nI 12) ej ?_
          refine lv_tableIn (off := 809) (tgt := 848) hx hb dL_law_39 (by decide +kernel) (by decide +kernel) (by decide +kernel) (by decide) ?_
          exact kC_ofServer hLE hW hn h5 hl hc2 hs2 next
        · refine vg_tp (nI 13) ej ?_
          refine lv_tableIn (off := 877) (tgt := 916) hx hb dL_law_39 (by decide +kernel) (by decide +kernel) (by decide +kernel) (by decide) ?_
          exact kC_between hLE hW hn h5 hl hc2 hs2 next
        · refine vg_tp (nI 14) ej ?_
          refine lv_tableIn (off := 957) (tgt := 996) hx hb dL_law_39 (by decide +kernel) (by decide +kernel) (by decide +kernel) (by decide) ?_
          exact kC_sees hLE hW hn h5 hl hc2 hs2 next
        · refine vg_tp (nI 15) ej ?_
          refine lv_tableIn (off := 1032) (tgt := 1071) hx hb dL_law_39 (by decide +kernel) (by decide +kernel) (by decide +kernel) (by decide) ?_
          exact kC_seesAnew hLE hW hn h5 hl hc2 hs2 next
        · refine vg_tp (nI 16) ej ?_
          refine lv_tableIn (off := 1107) (tgt := 1146) hx hb dL_law_39 (by decide +kernel) (by decide +kernel) (by decide +kernel) (by decide) ?_
          exact kC_home hLE hW hn h5 hl hc2 hs2 next
    · refine lv_icmp_gt (tgt := 1220) hx hb dL_law_29 (by decide) (fun _ => ?_) (fun z => absurd (q2 h5) z)
      refine lv_iconst (v := 1) hx hb dL_law_1220 (by decide) ?_
      refine va_forget (fun q hq => hS.2.2 q hq) ?_
      refine W.widen (k := 601024) (n := 7293033) (by omega) (by omega) ?_
      exact lw_ret hx hb hr hlocks dL_law_1221
set_option maxHeartbeats 4000000 in
set_option maxRecDepth 100000 in
theorem whole_start {p : Program} {e : Env} {s : State} {m : MethodId} {below : List Frame} {meth : Method} {c : Code} (l : Launch) (hflags : l.flags = flags0) {b L : Nat} {xs : Nat → Int32} (hL : L ≤ 2560) (C0 : lw_At p s m meth c b L xs) : W p l e room_1 s m #[Value.ref b] below meth c s.heap [] 0 0 (lw_Z below #[Value.ref b] s) (entryFrame m ([Value.ref b] : List Value).toArray 7) := by
  obtain ⟨D, cy, e0, mi, hLE⟩ := law_env l hflags hL C0
  obtain ⟨-, -, hr, -, -, -, -, -, hlocks, -⟩ := C0
  obtain ⟨⟨hx, hb, hml, hown, hts⟩, ⟨hX, hbl, -, hfl, hA, hbA⟩, hE, hF, hZ, hN⟩ := id hLE
  have hS : va_S (fun q : Nat => s.heap.size ≤ q) s.heap s.heap [] := va_S.rf
  have hP : va_P D vwCl ([] : va_W) s.heap := vg_P0
  have hD : va_D (fun q : Nat => s.heap.size ≤ q) ([] : va_W) := vg_D0
  have hl := lv_entry ([.ref b]) (n := 7) (Nat.le_of_ble_eq_true rfl)
  rw [lg_entry_eq]
  generalize (lg_sl ([.ref b]) ++ List.replicate (7 - (lg_sl ([.ref b])).length) Slot.unset).toArray = ls at hl ⊢
  have hl : lv_has ls 7 [(0, .ref b)] := hl
  refine va_new (ci := 5) (T := TX4) (N := 6) (fs := [.null, .null, .null, .null, .int 0, .int 0]) hx hb hts inlX4 tyX4 tyX4_ok hown (hts (.classLink RL 8 "Villagepost") (by decide +kernel)) (hts (.instantiable RX4 6) (by decide +kernel)) (hts (.initialized RX4) (by decide +kernel)) hE.1 hP hD hS hA rfl (fun j hj => by rcases (show j = 0 ∨ j = 1 ∨ j = 2 ∨ j = 3 ∨ j = 4 ∨ j = 5 by omega) with rfl | rfl | rfl | rfl | rfl | rfl <;> rfl) (Nat.le_of_ble_eq_true rfl) (Nat.le_of_ble_eq_true rfl) dL_law_0 (fun vo H hP hD hS => ?_)
  have hP : va_P D vwCl ([(vo, .inr (5, [.null, .null, .null, .null, .int 0, .int 0]))] : va_W) H := hP
  have hD : va_D (fun q : Nat => s.heap.size ≤ q) ([(vo, .inr (5, [.null, .null, .null, .null, .int 0, .int 0]))] : va_W) := hD
  refine lv_dup hx hb dL_law_3 rfl ?_
  have hp9 : ([(vo, .inr (5, [.null, .null, .null, .null, .int 0, .int 0]))] : va_W).Perm (wJ [(vo, .inr (5, [.null, .null, .null, .null, .int 0, .int 0]))] ([] : va_W)) := List.Perm.refl _
  refine vj_callv (va_runI (As := []) (rest := [.ref vo]) ⟨hx, hb, hml, hown, hts⟩ (kX4_init l D cy H.size e0 mi vo) (cwI 0 hts gL_law_X4_init rfl rfl rfl (hts (.initialized RX4) (by decide +kernel)) (hts (.methodLink RL 73 yX4_init) (by decide +kernel)) (hts (.instanceMethod yX4_init) (by decide +kernel)) rfl (by decide +kernel) ⟨Nat.le_of_ble_eq_true rfl, Nat.le_of_ble_eq_true rfl⟩) (vh_P.preS hE hF hZ hS (vj_free (vd_perm hp9 hD) hS hA) (vp_app.mp (vp_perm hP hp9)).1 (vd_app.mp (vd_perm hp9 hD)).1) rfl rfl hl.1 rfl (lv_room (Nat.le_of_ble_eq_true rfl)) dL_law_4 ⟨Nat.le_of_ble_eq_true rfl, Nat.le_of_ble_eq_true rfl⟩) hP hD hS hA hp9 (fun u H locs _ hP hD hS => ?_)
  obtain ⟨w, ew⟩ : ∃ w : va_W, w = (wJ (uSV cy u.2.2.2.1 u.1) (wJ (uVP vo u.2.2.2.1 u.2.2.2.2.1 u.2.2.2.2.2.1 u.2.2.2.2.2.2 0 0) (wJ (uHM cy u.2.2.2.2.1 (fun _ => 0)) (wJ (uLO u.2.2.2.2.2.1 0 e0 ([] : List Nat)) (wJ (Kw cy u.2.2.2.2.2.2 u.2.2.1 (fun _ _ => 0) (fun _ _ => 0)) (fam4 (Sv cy u.1 u.2.1 (fun _ => hIni e0) (fun _ _ _ => 0) (fun _ _ _ => 0) (fun _ => []) (fun _ => []) (fun _ => 0) (fun _ _ => 0)))))))) := ⟨_, rfl⟩
  have hI : CI cy e0 vo 0 (fun _ _ => 0) w := CI_ini (fun _ _ => rfl) (by rw [ew])
  have hp8 : (wJ (wJ (uSV cy u.2.2.2.1 u.1) (wJ (uVP vo u.2.2.2.1 u.2.2.2.2.1 u.2.2.2.2.2.1 u.2.2.2.2.2.2 0 0) (wJ (uHM cy u.2.2.2.2.1 (fun _ => 0)) (wJ (uLO u.2.2.2.2.2.1 0 e0 ([] : List Nat)) (wJ (Kw cy u.2.2.2.2.2.2 u.2.2.1 (fun _ _ => 0) (fun _ _ => 0)) (fam4 (Sv cy u.1 u.2.1 (fun _ => hIni e0) (fun _ _ _ => 0) (fun _ _ _ => 0) (fun _ => []) (fun _ => []) (fun _ => 0) (fun _ _ => 0)))))))) ([] : va_W)).Perm w := by rw [ew]; exact vp_pc (fun n9 hn9 h90 => by simp only [wJ, hn9, h90, Nat.add_zero, Nat.zero_add] <;> ac_rfl)
  have hP : va_P D vwCl w H := vp_perm hP hp8
  have hD : va_D (fun q : Nat => s.heap.size ≤ q) w := vd_perm hp8 hD
  refine lv_astore_n (lv' := [(1, .ref vo), (0, .ref b)]) hx hb dL_law_7 rfl hl (by decide) rfl (fun ls hl => ?_)
  refine va_new (ci := 6) (T := TX5) (N := 26) (fs := [.int 0, .int 0, .null, .null, .null, .null, .null, .null, .null, .null, .null, .int 0, .null, .null, .null, .null, .null, .int 0, .null, .null, .null, .null, .null, .null, .null, .null]) hx hb hts inlX5 tyX5 tyX5_ok hown (hts (.classLink RL 74 "VillagepostModel") (by decide +kernel)) (hts (.instantiable RX5 26) (by decide +kernel)) (hts (.initialized RX5) (by decide +kernel)) hE.1 hP hD hS hA rfl (fun j hj => by rcases (show j = 0 ∨ j = 1 ∨ j = 2 ∨ j = 3 ∨ j = 4 ∨ j = 5 ∨ j = 6 ∨ j = 7 ∨ j = 8 ∨ j = 9 ∨ j = 10 ∨ j = 11 ∨ j = 12 ∨ j = 13 ∨ j = 14 ∨ j = 15 ∨ j = 16 ∨ j = 17 ∨ j = 18 ∨ j = 19 ∨ j = 20 ∨ j = 21 ∨ j = 22 ∨ j = 23 ∨ j = 24 ∨ j = 25 by omega) with rfl | rfl | rfl | rfl | rfl | rfl | rfl | rfl | rfl | rfl | rfl | rfl | rfl | rfl | rfl | rfl | rfl | rfl | rfl | rfl | rfl | rfl | rfl | rfl | rfl | rfl <;> rfl) (Nat.le_of_ble_eq_true rfl) (Nat.le_of_ble_eq_true rfl) dL_law_8 (fun mo H hP hD hS => ?_)
  have hp7 : (wJ w [(mo, .inr (6, [.int 0, .int 0, .null, .null, .null, .null, .null, .null, .null, .null, .null, .int 0, .null, .null, .null, .null, .null, .int 0, .null, .null, .null, .null, .null, .null, .null, .null]))] : va_W).Perm (wJ [(mo, .inr (6, [.int 0, .int 0, .null, .null, .null, .null, .null, .null, .null, .null, .null, .int 0, .null, .null, .null, .null, .null, .int 0, .null, .null, .null, .null, .null, .null, .null, .null]))] w) := vp_pc (fun n9 hn9 h90 => by simp only [wJ, hn9, h90, Nat.add_zero, Nat.zero_add] <;> ac_rfl)
  have hP : va_P D vwCl (wJ [(mo, .inr (6, [.int 0, .int 0, .null, .null, .null, .null, .null, .null, .null, .null, .null, .int 0, .null, .null, .null, .null, .null, .int 0, .null, .null, .null, .null, .null, .null, .null, .null]))] w) H := vp_perm hP hp7
  have hD : va_D (fun q : Nat => s.heap.size ≤ q) (wJ [(mo, .inr (6, [.int 0, .int 0, .null, .null, .null, .null, .null, .null, .null, .null, .null, .int 0, .null, .null, .null, .null, .null, .int 0, .null, .null, .null, .null, .null, .null, .null, .null]))] w) := vd_perm hp7 hD
  refine lv_dup hx hb dL_law_11 rfl ?_
  refine vj_callv (va_runI (As := []) (rest := [.ref mo]) ⟨hx, hb, hml, hown, hts⟩ (kX5_init l D cy H.size mo) (cwI 0 hts gL_law_X5_init rfl rfl rfl (hts (.initialized RX5) (by decide +kernel)) (hts (.methodLink RL 76 yX5_init) (by decide +kernel)) (hts (.instanceMethod yX5_init) (by decide +kernel)) rfl (by decide +kernel) ⟨Nat.le_of_ble_eq_true rfl, Nat.le_of_ble_eq_true rfl⟩) (vg_P.preS hE (vp_app.mp hP).1 (vd_app.mp hD).1) rfl rfl hl.1 rfl (lv_room (Nat.le_of_ble_eq_true rfl)) dL_law_12 ⟨Nat.le_of_ble_eq_true rfl, Nat.le_of_ble_eq_true rfl⟩) hP hD hS hA (List.Perm.refl _) (fun ad H locs _ hP hD hS => ?_)
  have hP : va_P D vwCl (wJ (Mw cy mo ad (fun _ _ => 0)) w) H := hP
  have hD : va_D (fun q : Nat => s.heap.size ≤ q) (wJ (Mw cy mo ad (fun _ _ => 0)) w) := hD
  refine lv_astore_n (lv' := [(2, .ref mo), (1, .ref vo), (0, .ref b)]) hx hb dL_law_15 rfl hl (by decide) rfl (fun ls hl => ?_)
  refine lv_iconst (v := 1) hx hb dL_law_16 (by decide) ?_
  refine vh_newJ (N' := 1) hx hb (hts (.arrayClass .long) (by decide +kernel)) hE hP hD hS hA (by decide) (by decide) (by decide) (Nat.le_of_ble_eq_true rfl) (Nat.le_of_ble_eq_true rfl) dL_law_17 (fun oa H hP hD hS => ?_)
  have hp6 : (wJ (wJ (Mw cy mo ad (fun _ _ => 0)) w) (uOut cy oa (fun _ => 0)) : va_W).Perm (wJ (uOut cy oa (fun _ => 0)) (wJ (Mw cy mo ad (fun _ _ => 0)) w)) := vp_pc (fun n9 hn9 h90 => by simp only [wJ, hn9, h90, Nat.add_zero, Nat.zero_add] <;> ac_rfl)
  have hP : va_P D vwCl (wJ (uOut cy oa (fun _ => 0)) (wJ (Mw cy mo ad (fun _ _ => 0)) w)) H := vp_perm hP hp6
  have hD : va_D (fun q : Nat => s.heap.size ≤ q) (wJ (uOut cy oa (fun _ => 0)) (wJ (Mw cy mo ad (fun _ _ => 0)) w)) := vd_perm hp6 hD
  refine lv_astore_n (lv' := [(3, .ref oa), (2, .ref mo), (1, .ref vo), (0, .ref b)]) hx hb dL_law_19 rfl hl (by decide) rfl (fun ls hl => ?_)
  refine lv_iconst (v := 0) hx hb dL_law_20 (by decide) ?_
  refine vg_tp (nI (5 * 0)) rfl ?_
  refine lv_istore (lv' := [(4, .int (nI (5 * 0))), (3, .ref oa), (2, .ref mo), (1, .ref vo), (0, .ref b)]) hx hb dL_law_21 hl (by decide) rfl (fun ls hl => ?_)
  exact law_loop hLE hr hlocks (L + 1) 0 (fun _ _ => 0) (fun _ => 0) w H locs ls _ _ (by omega) (by omega) (Nat.le_of_ble_eq_true rfl) (Nat.le_of_ble_eq_true rfl) ⟨hP, hD, hS, hI⟩ (lv_sub hl [4, 3, 2, 1, 0] rfl)
