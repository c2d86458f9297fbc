/-! p20: six people come -/
def PI (k : Nat) (hf : Nat → Int32) (μ : Nat → Nat → Int32) : Prop := μ 1 0 = nI k ∧ (∀ j, j < k → hf j = nI (tn (μ 2 j)) ∧ tn (μ 2 j) < 3) ∧ ∀ r, r ≠ 0 → r ≠ 1 → r ≠ 2 → μ r = fun _ => 0
theorem PI_per {k s : Nat} {hf : Nat → Int32} {μ : Nat → Nat → Int32} (h : PI k hf μ) (hk : k < 6) (hs : s < 3) : PI (k + 1) (upd hf k (nI s)) (mPer μ (nI s)) := by
  obtain ⟨h1, h2, h3⟩ := h
  have i3 : mIn (nI s) 0 3 = true := mIn_nI (n := 4) (by omega) (by omega)
  have e : mPer μ (nI s) = va_up (va_up (va_up μ 0 (fun _ => 0)) 2 (upd (μ 2) k (nI s))) 1 (fun _ => nI (k + 1)) := by
    rw [mPer, i3, if_neg (by decide), h1, tn_nI (by omega), if_neg (by omega)]
  rw [e]
  refine ⟨rfl, fun j hj => ?_, fun r r0 r1 r2 => ?_⟩
  · show upd hf k (nI s) j = nI (tn (upd (μ 2) k (nI s) j)) ∧ tn (upd (μ 2) k (nI s) j) < 3
    by_cases c : j = k
    · rw [c, upd_same, upd_same, tn_nI (by omega)]
      exact ⟨rfl, hs⟩
    · rw [upd_ne _ _ c, upd_ne _ _ c]
      exact h2 j (by omega)
  · rw [va_up_ne _ _ r1, va_up_ne _ _ r2, va_up_ne _ _ r0]
    exact h3 r r0 r1 r2
theorem PI_J {hf : Nat → Int32} {μ : Nat → Nat → Int32} (h : PI 6 hf μ) : J μ 0 0 := by
  obtain ⟨h1, h2, h3⟩ := h
  have z := fun (r : Nat) (h : r ≠ 0) (h' : r ≠ 1) (h'' : r ≠ 2) (j : Nat) => congrFun (h3 r h h' h'') j
  have t0 : tn (0 : Int32) = 0 := tn_nI (k := 0) (by omega)
  refine ⟨⟨h1, fun p hp => (h2 p hp).2, z 17 (by decide) (by decide) (by decide) 0, z 11 (by decide) (by decide) (by decide) 0⟩, fun a ha => absurd ha (Nat.not_lt_zero _), fun a ha => absurd ha (Nat.not_lt_zero _), fun s hs a b ha hb => ⟨fun q => absurd (z 4 (by decide) (by decide) (by decide) _) q, fun q => absurd (z 3 (by decide) (by decide) (by decide) _) q, fun q => absurd (z 5 (by decide) (by decide) (by decide) _) q⟩, fun s n _ _ q => absurd (z 8 (by decide) (by decide) (by decide) _) q, fun s n _ _ _ => z 8 (by decide) (by decide) (by decide) _, fun n s hn => absurd hn (Nat.not_lt_zero _), fun n hn => absurd hn (Nat.not_lt_zero _), fun a _ => z 22 (by decide) (by decide) (by decide) _, fun i hi => ?_⟩
  rw [z 25 (by decide) (by decide) (by decide) i, t0]
  exact Nat.zero_le _
theorem PI_KK {cy : Nat → ClassId} {e0 vo : Nat} {hf : Nat → Int32} {μ : Nat → Nat → Int32} {w : va_W} (h : PI 6 hf μ) (hI : CI cy e0 vo 6 μ w) : KK cy e0 vo μ 0 0 w := by
  have hJ := PI_J h
  refine ⟨CI_tight hI (by omega) 130 hJ.1.2.2.1 (by omega) (by omega) (fun i hi => ?_), hJ⟩
  have := (Jp_le hJ.2.2.2.2.2.2.2.2.2 i hi).1
  omega
theorem PI_L {hf : Nat → Int32} {μ : Nat → Nat → Int32} (h : PI 6 hf μ) : LA3 hf (fun _ => 0) (fun _ => 0) μ 0 := by
  refine ⟨fun j hj => (h.2.1 j hj).1, fun j hj => absurd hj (Nat.not_lt_zero _), fun j hj => ⟨fun _ z => ?_, fun _ => rfl⟩⟩
  exact z (congrFun (h.2.2 8 (by decide) (by decide) (by decide)) _)

set_option maxHeartbeats 4000000 in
set_option maxRecDepth 100000 in
theorem kP_loop {p : Program} {l : Launch} {e : Env} {s : State} {m : MethodId} {below : List Frame} {meth : Method} {c : Code} {b L : Nat} {xs : Nat → Int32} {A0 : Nat → Prop} {D : va_G} {cy : Nat → ClassId} {e0 mi vo ha ra ga : Nat} {Q : State → Prop} (hLE : LE p l s m c b L xs A0 D cy e0 mi) {cells slots : Nat} (hcl : cells ≤ 600104) (hsl : slots ≤ 7301314) (kk : ∀ (μ : Nat → Nat → Int32) (hf : Nat → Int32) (w : va_W) (H : Heap) (locs : List Loc) (ls : Array Slot), LW s A0 D cy e0 vo ha ra ga hf (fun _ => 0) (fun _ => 0) μ 0 0 w H locs → lv_has ls 23 [(0, .ref b), (1, .ref vo), (2, .ref ha), (3, .ref ra), (4, .ref ga), (5, .int (nI 6)), (6, .int (nI 0)), (7, .int (nI 1)), (8, .int (nI 0))] → W p l e room_1 s m #[Value.ref b] below meth c H locs cells slots Q (F0 m 89 ls [])) : ∀ (d k1 : Nat) (μ : Nat → Nat → Int32) (hf : Nat → Int32) (w : va_W) (H : Heap) (locs : List Loc) (ls : Array Slot), k1 + d = 6 → PI k1 hf μ → CI cy e0 vo k1 μ w → va_P D vwCl (wJ (uA cy ha ra ga hf (fun _ => 0) (fun _ => 0)) w) H → va_D A0 (wJ (uA cy ha ra ga hf (fun _ => 0) (fun _ => 0)) w) → va_S A0 s.heap H locs → lv_has ls 23 [(0, .ref b), (1, .ref vo), (2, .ref ha), (3, .ref ra), (4, .ref ga), (5, .int (nI 6)), (6, .int (nI 0)), (7, .int (nI 1)), (8, .int (nI k1))] → W p l e room_1 s m #[Value.ref b] below meth c H locs cells slots Q (F0 m 37 ls []) := by
  obtain ⟨⟨hx, hb, hml, hown, hts⟩, ⟨hX, hbl, hL, hfl, hA, hbA⟩, hE, hF, hZ⟩ := id hLE
  intro d
  induction d with
  | zero =>
    intro k1 μ hf w H locs ls h1 hPI hI hP hD hS hl
    have e9 : k1 = 6 := by omega
    subst e9
    refine lv_iload hx hb dL_law_37 (lv_at hl 8 rfl) ?_
    refine lv_iload hx hb dL_law_39 (lv_at hl 5 rfl) ?_
    refine lv_icmp_ge (tgt := 86) hx hb dL_law_41 (by decide) (fun _ => ?_) (fun z9 => absurd ((nI_leI (a := 6) (b := 6) (by omega) (by omega)).mpr (by omega)) z9)
    refine lv_iconst (v := 0) hx hb dL_law_86 (by decide) ?_
    refine vg_tp (nI 0) (by decide) ?_
    refine lv_istore (lv' := [(8, .int (nI 0)), (0, .ref b), (1, .ref vo), (2, .ref ha), (3, .ref ra), (4, .ref ga), (5, .int (nI 6)), (6, .int (nI 0)), (7, .int (nI 1))]) hx hb dL_law_87 hl (by decide) rfl (fun ls hl => ?_)
    exact kk μ hf w H locs ls ⟨hP, hD, hS, PI_KK hPI hI, PI_L hPI⟩ (lv_sub hl [1, 2, 3, 4, 5, 6, 7, 8, 0] rfl)
  | succ d ih =>
    intro k1 μ hf w H locs ls h1 hPI hI hP hD hS hl
    refine lv_iload hx hb dL_law_37 (lv_at hl 8 rfl) ?_
    refine lv_iload hx hb dL_law_39 (lv_at hl 5 rfl) ?_
    refine lv_icmp_ge (tgt := 86) hx hb dL_law_41 (by decide) (fun z9 => absurd z9 (fun q9 => absurd ((nI_leI (a := 6) (b := k1) (by omega) (by omega)).mp q9) (by omega))) (fun _ => ?_)
    refine lv_aload_n hx hb dL_law_44 rfl (lv_at hl 2 rfl) ?_
    refine lv_iload hx hb dL_law_45 (lv_at hl 8 rfl) ?_
    refine lv_aload_n hx hb dL_law_47 rfl (lv_at hl 0 rfl) ?_
    refine lv_iload hx hb dL_law_48 (lv_at hl 8 rfl) ?_
    refine lv_iconst (v := 3) hx hb dL_law_50 (by decide) ?_
    refine vg_tp (nI 3) (by decide) ?_
    refine vQ_d (va_runS (As := [.ref b, .int (nI k1), .int (nI 3)]) (rest := [.int (nI k1), .ref ha]) ⟨hx, hb, hml, hown, hts⟩ (kD_drawn l D b L xs H.size k1 3 hL (by omega) (by decide) (by decide)) (va_cwS 3 hts gL_law_L_drawn rfl rfl rfl (by decide +kernel) ⟨Nat.le_of_ble_eq_true rfl, Nat.le_of_ble_eq_true rfl⟩) (vd_P.preS hX hbl hbA hS) rfl rfl hl.1 rfl (lv_room (Nat.le_of_ble_eq_true rfl)) dL_law_51 ⟨by show cells + 0 ≤ 600104; omega, by show slots + 0 ≤ 7301314; omega⟩) hP hD hS hA (fun r s1 H locs hk hP hD hS => ?_)
    obtain ⟨hk, hs1⟩ := hk
    subst hk
    refine vg_iast hx hb hE.1 hP hD hS 0 0 rfl rfl (f := hf) (j := k1) (by omega) (by decide) dL_law_54 (fun H locs hP hD hS => ?_)
    have hP : va_P D vwCl (wJ (uA cy ha ra ga (upd hf k1 (nI s1)) (fun _ => 0) (fun _ => 0)) w) H := hP
    have hD : va_D A0 (wJ (uA cy ha ra ga (upd hf k1 (nI s1)) (fun _ => 0) (fun _ => 0)) w) := hD
    refine lv_iload hx hb dL_law_55 (lv_at hl 7 rfl) ?_
    refine lv_if_eq (tgt := 77) hx hb dL_law_57 (by decide) (fun z9 => absurd z9 (fun q9 => absurd ((nI_eq (a := 1) (b := 0) (by omega) (by omega)).mp q9) (by omega))) (fun _ => ?_)
    refine lv_aload_n hx hb dL_law_60 rfl (lv_at hl 1 rfl) ?_
    refine lv_aload_n hx hb dL_law_61 rfl (lv_at hl 2 rfl) ?_
    refine lv_iload hx hb dL_law_62 (lv_at hl 8 rfl) ?_
    refine vg_iald hx hb hE.1 hP 0 0 rfl rfl (f := (upd hf k1 (nI s1))) (j := k1) (by omega) (by decide) dL_law_64 ?_
    refine vg_tp (nI s1) (upd_same _ _ _) ?_
    refine vQ_r (va_runV (As := [.int (nI s1)]) (rest := []) ⟨hx, hb, hml, hown, hts⟩ (kN_person l hfl D cy H.size e0 mi vo k1 μ w hI (by omega) hPI.1 (by omega) (show s1 < 4 by omega)) (cwV 1 hts gL_law_X4_person rfl rfl rfl (by decide +kernel) ⟨Nat.le_of_ble_eq_true rfl, Nat.le_of_ble_eq_true rfl⟩) (vQ_pV hI hE hF hZ hS hA hP hD) rfl rfl hl.1 rfl (lv_room (Nat.le_of_ble_eq_true rfl)) dL_law_65 ⟨by show cells + 0 ≤ 600104; omega, by show slots + 0 ≤ 7301314; omega⟩) hP hD hS hA (fun r u H locs hk hP hD hS => ?_)
    obtain ⟨hk1a, hk2⟩ := hk
    subst hk1a
    refine lv_iload hx hb dL_law_68 (lv_at hl 8 rfl) ?_
    refine lv_icmp_ne (tgt := 77) hx hb dL_law_70 (by decide) (fun z9 => absurd ((nI_eq (a := k1) (b := k1) (by omega) (by omega)).mpr (by omega)) z9) (fun _ => ?_)
    refine lv_iconst (v := 1) hx hb dL_law_73 (by decide) ?_
    refine vg_tp (nI 1) (by decide) ?_
    refine lv_goto (tgt := 78) hx hb dL_law_74 (by decide) ?_
    refine lv_istore (lv' := [(7, .int (nI 1)), (0, .ref b), (1, .ref vo), (2, .ref ha), (3, .ref ra), (4, .ref ga), (5, .int (nI 6)), (6, .int (nI 0)), (8, .int (nI k1))]) hx hb dL_law_78 hl (by decide) rfl (fun ls hl => ?_)
    refine lv_iinc (v := nI (k1 + 1)) (lv' := [(8, .int (nI (k1 + 1))), (7, .int (nI 1)), (0, .ref b), (1, .ref vo), (2, .ref ha), (3, .ref ra), (4, .ref ga), (5, .int (nI 6)), (6, .int (nI 0))]) hx hb dL_law_80 hl (k := 8) rfl (by rw [show Int32.ofInt 1 = nI 1 from by decide, nI_add]) (by decide) rfl (fun ls hl => ?_)
    refine lv_goto (tgt := 37) hx hb dL_law_83 (by decide) ?_
    exact ih (k1 + 1) _ _ u H locs ls (by omega) (PI_per hPI (by omega) hs1) hk2 hP hD hS (lv_sub hl [2, 3, 4, 5, 6, 7, 8, 1, 0] rfl)

set_option maxHeartbeats 4000000 in
set_option maxRecDepth 100000 in
theorem whole_start {p : Program} {e : Env} {s : State} {m : MethodId} {below : List Frame} {meth : Method} {c : Code} (l : Launch) (hflags : l.flags = flags0) {b L : Nat} {xs : Nat → Int32} (hL : L ≤ 260) (C0 : lw_At p s m meth c b L xs) : W p l e room_1 s m #[Value.ref b] below meth c s.heap [] 0 0 (lw_Z below #[Value.ref b] s) (entryFrame m ([Value.ref b] : List Value).toArray 23) := by
  obtain ⟨D, cy, e0, mi, hLE⟩ := law_env l hflags hL C0
  obtain ⟨-, -, hr, -, -, -, -, -, hlocks, -⟩ := C0
  obtain ⟨⟨hx, hb, hml, hown, hts⟩, ⟨hX, hbl, -, hfl, hA, hbA⟩, hE, hF, hZ⟩ := id hLE
  have hS : va_S (fun q : Nat => s.heap.size ≤ q) s.heap s.heap [] := va_S.rf
  have hP : va_P D vwCl ([] : va_W) s.heap := vg_P0
  have hD : va_D (fun q : Nat => s.heap.size ≤ q) ([] : va_W) := vg_D0
  have hl := lv_entry ([.ref b]) (n := 23) (Nat.le_of_ble_eq_true rfl)
  rw [lg_entry_eq]
  generalize (lg_sl ([.ref b]) ++ List.replicate (23 - (lg_sl ([.ref b])).length) Slot.unset).toArray = ls at hl ⊢
  have hl : lv_has ls 23 [(0, .ref b)] := hl
  refine va_new (ci := 5) (T := TX4) (N := 6) (fs := [.null, .null, .null, .null, .int 0, .int 0]) hx hb hts inlX4 tyX4 tyX4_ok hown (hts (.classLink RL 9 "Villagepost") (by decide +kernel)) (hts (.instantiable RX4 6) (by decide +kernel)) (hts (.initialized RX4) (by decide +kernel)) hE.1 hP hD hS hA rfl (fun j hj => by rcases (show j = 0 ∨ j = 1 ∨ j = 2 ∨ j = 3 ∨ j = 4 ∨ j = 5 by omega) with rfl | rfl | rfl | rfl | rfl | rfl <;> rfl) (Nat.le_of_ble_eq_true rfl) (Nat.le_of_ble_eq_true rfl) dL_law_0 (fun vo H hP hD hS => ?_)
  have hP : va_P D vwCl ([(vo, .inr (5, [.null, .null, .null, .null, .int 0, .int 0]))] : va_W) H := hP
  have hD : va_D (fun q : Nat => s.heap.size ≤ q) ([(vo, .inr (5, [.null, .null, .null, .null, .int 0, .int 0]))] : va_W) := hD
  refine lv_dup hx hb dL_law_3 rfl ?_
  have hp9 : ([(vo, .inr (5, [.null, .null, .null, .null, .int 0, .int 0]))] : va_W).Perm (wJ [(vo, .inr (5, [.null, .null, .null, .null, .int 0, .int 0]))] ([] : va_W)) := List.Perm.refl _
  refine vj_callv (va_runI (As := []) (rest := [.ref vo]) ⟨hx, hb, hml, hown, hts⟩ (kX4_init l D cy H.size e0 mi vo) (cwI 0 hts gL_law_X4_init rfl rfl rfl (hts (.initialized RX4) (by decide +kernel)) (hts (.methodLink RL 44 yX4_init) (by decide +kernel)) (hts (.instanceMethod yX4_init) (by decide +kernel)) rfl (by decide +kernel) ⟨Nat.le_of_ble_eq_true rfl, Nat.le_of_ble_eq_true rfl⟩) (vh_P.preS hE hF hZ hS (vj_free (vd_perm hp9 hD) hS hA) (vp_app.mp (vp_perm hP hp9)).1 (vd_app.mp (vd_perm hp9 hD)).1) rfl rfl hl.1 rfl (lv_room (Nat.le_of_ble_eq_true rfl)) dL_law_4 ⟨Nat.le_of_ble_eq_true rfl, Nat.le_of_ble_eq_true rfl⟩) hP hD hS hA hp9 (fun u H locs _ hP hD hS => ?_)
  obtain ⟨w, ew⟩ : ∃ w : va_W, w = (wJ (uSV cy u.2.2.2.1 u.1) (wJ (uVP vo u.2.2.2.1 u.2.2.2.2.1 u.2.2.2.2.2.1 u.2.2.2.2.2.2 0 0) (wJ (uHM cy u.2.2.2.2.1 (fun _ => 0)) (wJ (uLO u.2.2.2.2.2.1 0 e0 ([] : List Nat)) (wJ (Kw cy u.2.2.2.2.2.2 u.2.2.1 (fun _ _ => 0) (fun _ _ => 0)) (fam4 (Sv cy u.1 u.2.1 (fun _ => hIni e0) (fun _ _ _ => 0) (fun _ _ _ => 0) (fun _ => []) (fun _ => []) (fun _ => 0) (fun _ _ => 0)))))))) := ⟨_, rfl⟩
  have hI : CI cy e0 vo 0 (fun _ _ => 0) w := CI_ini (fun _ _ => rfl) (by rw [ew])
  have hp8 : (wJ (wJ (uSV cy u.2.2.2.1 u.1) (wJ (uVP vo u.2.2.2.1 u.2.2.2.2.1 u.2.2.2.2.2.1 u.2.2.2.2.2.2 0 0) (wJ (uHM cy u.2.2.2.2.1 (fun _ => 0)) (wJ (uLO u.2.2.2.2.2.1 0 e0 ([] : List Nat)) (wJ (Kw cy u.2.2.2.2.2.2 u.2.2.1 (fun _ _ => 0) (fun _ _ => 0)) (fam4 (Sv cy u.1 u.2.1 (fun _ => hIni e0) (fun _ _ _ => 0) (fun _ _ _ => 0) (fun _ => []) (fun _ => []) (fun _ => 0) (fun _ _ => 0)))))))) ([] : va_W)).Perm w := by rw [ew]; exact vp_pc (fun n9 hn9 h90 => by simp only [wJ, hn9, h90, Nat.add_zero, Nat.zero_add] <;> ac_rfl)
  have hP : va_P D vwCl w H := vp_perm hP hp8
  have hD : va_D (fun q : Nat => s.heap.size ≤ q) w := vd_perm hp8 hD
  refine lv_astore_n (lv' := [(1, .ref vo), (0, .ref b)]) hx hb dL_law_7 rfl hl (by decide) rfl (fun ls hl => ?_)
  refine lv_bipush (v := 6) hx hb dL_law_8 (by decide) ?_
  refine vg_tp (nI 6) (by decide) ?_
  refine vh_newI hx hb (hts (.arrayClass .int) (by decide +kernel)) hE hP hD hS hA (N' := 6) (by decide) (by decide) (by decide) (Nat.le_of_ble_eq_true rfl) (Nat.le_of_ble_eq_true rfl) dL_law_10 (fun ha H hP hD hS => ?_)
  refine lv_astore_n (lv' := [(2, .ref ha), (1, .ref vo), (0, .ref b)]) hx hb dL_law_12 rfl hl (by decide) rfl (fun ls hl => ?_)
  refine lv_bipush (v := 20) hx hb dL_law_13 (by decide) ?_
  refine vg_tp (nI 20) (by decide) ?_
  refine vh_newI hx hb (hts (.arrayClass .int) (by decide +kernel)) hE hP hD hS hA (N' := 20) (by decide) (by decide) (by decide) (Nat.le_of_ble_eq_true rfl) (Nat.le_of_ble_eq_true rfl) dL_law_15 (fun ra H hP hD hS => ?_)
  refine lv_astore_n (lv' := [(3, .ref ra), (2, .ref ha), (1, .ref vo), (0, .ref b)]) hx hb dL_law_17 rfl hl (by decide) rfl (fun ls hl => ?_)
  refine lv_bipush (v := 20) hx hb dL_law_18 (by decide) ?_
  refine vg_tp (nI 20) (by decide) ?_
  refine vh_newI hx hb (hts (.arrayClass .int) (by decide +kernel)) hE hP hD hS hA (N' := 20) (by decide) (by decide) (by decide) (Nat.le_of_ble_eq_true rfl) (Nat.le_of_ble_eq_true rfl) dL_law_20 (fun ga H hP hD hS => ?_)
  refine lv_astore (lv' := [(4, .ref ga), (3, .ref ra), (2, .ref ha), (1, .ref vo), (0, .ref b)]) hx hb dL_law_22 hl (by decide) rfl (fun ls hl => ?_)
  refine lv_bipush (v := 6) hx hb dL_law_24 (by decide) ?_
  refine vg_tp (nI 6) (by decide) ?_
  refine lv_istore (lv' := [(5, .int (nI 6)), (4, .ref ga), (3, .ref ra), (2, .ref ha), (1, .ref vo), (0, .ref b)]) hx hb dL_law_26 hl (by decide) rfl (fun ls hl => ?_)
  refine lv_iconst (v := 0) hx hb dL_law_28 (by decide) ?_
  refine vg_tp (nI 0) (by decide) ?_
  refine lv_istore (lv' := [(6, .int (nI 0)), (5, .int (nI 6)), (4, .ref ga), (3, .ref ra), (2, .ref ha), (1, .ref vo), (0, .ref b)]) hx hb dL_law_29 hl (by decide) rfl (fun ls hl => ?_)
  refine lv_iconst (v := 1) hx hb dL_law_31 (by decide) ?_
  refine vg_tp (nI 1) (by decide) ?_
  refine lv_istore (lv' := [(7, .int (nI 1)), (6, .int (nI 0)), (5, .int (nI 6)), (4, .ref ga), (3, .ref ra), (2, .ref ha), (1, .ref vo), (0, .ref b)]) hx hb dL_law_32 hl (by decide) rfl (fun ls hl => ?_)
  refine lv_iconst (v := 0) hx hb dL_law_34 (by decide) ?_
  refine vg_tp (nI 0) (by decide) ?_
  refine lv_istore (lv' := [(8, .int (nI 0)), (7, .int (nI 1)), (6, .int (nI 0)), (5, .int (nI 6)), (4, .ref ga), (3, .ref ra), (2, .ref ha), (1, .ref vo), (0, .ref b)]) hx hb dL_law_35 hl (by decide) rfl (fun ls hl => ?_)
  have hp7 : (((w ++ [(ha, .inl (cy 0, 6, .inl (fun _ => 0)))]) ++ [(ra, .inl (cy 0, 20, .inl (fun _ => 0)))]) ++ [(ga, .inl (cy 0, 20, .inl (fun _ => 0)))] : va_W).Perm (wJ (uA cy ha ra ga (fun _ => 0) (fun _ => 0) (fun _ => 0)) w) := by
    have e : (uA cy ha ra ga (fun _ => 0) (fun _ => 0) (fun _ => 0) : va_W) = wJ [(ha, .inl (cy 0, 6, .inl (fun _ => 0)))] (wJ [(ra, .inl (cy 0, 20, .inl (fun _ => 0)))] [(ga, .inl (cy 0, 20, .inl (fun _ => 0)))]) := rfl
    rw [e]
    exact vp_pc (fun n9 hn9 h90 => by simp only [wJ, hn9, h90, Nat.add_zero, Nat.zero_add] <;> ac_rfl)
  have hP : va_P D vwCl (wJ (uA cy ha ra ga (fun _ => 0) (fun _ => 0) (fun _ => 0)) w) H := vp_perm hP hp7
  have hD : va_D (fun q : Nat => s.heap.size ≤ q) (wJ (uA cy ha ra ga (fun _ => 0) (fun _ => 0) (fun _ => 0)) w) := vd_perm hp7 hD
  refine W.widen (k := 60) (n := 2500) (Nat.le_of_ble_eq_true rfl) (Nat.le_of_ble_eq_true rfl) ?_
  refine kP_loop (cells := 60) (slots := 2500) hLE (Nat.le_of_ble_eq_true rfl) (Nat.le_of_ble_eq_true rfl) (fun μ hf w H locs ls hLW hl => ?_) 6 0 (fun _ _ => 0) (fun _ => 0) w H _ ls (by omega) ⟨rfl, fun j hj => absurd hj (Nat.not_lt_zero _), fun _ _ _ _ => rfl⟩ hI hP hD hS (lv_sub hl [8, 7, 6, 5, 4, 3, 2, 1, 0] rfl)
  refine kS_loop hLE (fun μ nn nc w af gf H locs ls hLW hn hc hl => ?_) 60 0 μ 0 0 w (fun _ => 0) (fun _ => 0) H locs ls _ _ (by omega) (by omega) (by omega) (Nat.le_of_ble_eq_true rfl) (Nat.le_of_ble_eq_true rfl) hLW hl
  refine kF_all hLE hn hc hLW hl (fun H locs ls cells slots hS hc2 hs2 => ?_)
  refine va_forget (fun q hq => hS.2.2 q hq) ?_
  refine W.widen (k := 600104) (n := 7301314) hc2 hs2 ?_
  exact lw_ret hx hb hr hlocks dL_law_1596
