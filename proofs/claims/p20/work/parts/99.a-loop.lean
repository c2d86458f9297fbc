/-! p20: the law's loop -/

theorem kS_step {p : Program} {l : Launch} {e : Env} {s : State} {m : MethodId} {below : List Frame} {meth : Method} {c : Code} {b L : Nat} {xs : Nat → Int32} {A0 : Nat → Prop} {D : va_G} {cy : Nat → ClassId} {e0 mi vo ha ra ga nn nc cells slots : Nat} {hf af gf : Nat → Int32} {μ : Nat → Nat → Int32} {w : va_W} {H : Heap} {locs : List Loc} {ls : Array Slot} {Q : State → Prop} (hLE : LE p l s m c b L xs A0 D cy e0 mi) (hLW : LW s A0 D cy e0 vo ha ra ga hf af gf μ nn nc w H locs) (hn : nn ≤ 20) (hc : nc < 60) {k1 : Nat} (hk1 : k1 < 60) (hcl : cells + 24 ≤ 600104) (hsl : slots + 24702 ≤ 7301314) (hl : lv_has ls 23 [(0, .ref b), (1, .ref vo), (2, .ref ha), (3, .ref ra), (4, .ref ga), (5, .int (nI 6)), (6, .int (nI nn)), (7, .int (nI 1)), (8, .int (nI k1))]) (kk : ∀ (μ' : Nat → Nat → Int32) (nn' nc' : Nat) (w' : va_W) (af' gf' : Nat → Int32) (H' : Heap) (locs' : List Loc) (ls' : Array Slot), LW s A0 D cy e0 vo ha ra ga hf af' gf' μ' nn' nc' w' H' locs' → nn' ≤ 20 → nc' ≤ nc + 1 → lv_has ls' 23 [(0, .ref b), (1, .ref vo), (2, .ref ha), (3, .ref ra), (4, .ref ga), (5, .int (nI 6)), (6, .int (nI nn')), (7, .int (nI 1)), (8, .int (nI (k1 + 1)))] → W p l e room_1 s m #[Value.ref b] below meth c H' locs' (cells + 24) (slots + 24702) Q (F0 m 89 ls' [])) : W p l e room_1 s m #[Value.ref b] below meth c H locs cells slots Q (F0 m 101 ls []) :=
  kS_0 hLE hLW hn (by omega) hk1 (by omega) (by omega) hl (fun kw p1 v1 q1 n1 s1 H locs ls hkw hp hq hpq hv hn1 hn0 hs1 hLW hl =>
    kC_disp hLE hLW hn hc hk1 hp hq hpq hv hn1 hs1 hkw hcl hsl hl (fun μ' nn' nc' w' af' gf' H' locs' ls' hLW' a1 a2 a3 hl' =>
      have hn1' : 0 < nn' → n1 < nn' := fun z => by
        by_cases y : nn = 0
        · have := hn0 y; omega
        · have := hn1 (by omega); omega
      kS_1 hLE hLW' a1 (by omega) hk1 hp hq hn1' hcl hsl hl' (fun w2 H2 l2 ls2 hLW2 hl2 =>
        kS_2 hLE hLW2 a1 (by omega) hk1 hp hq hn1' hcl hsl hl2 (fun w3 H3 l3 ls3 hLW3 hl3 =>
          kS_3 hLE hLW3 a1 (by omega) hk1 hp hq hn1' hcl hsl hl3 (fun w4 H4 l4 ls4 hLW4 hl4 => kk μ' nn' nc' w4 af' gf' H4 l4 ls4 hLW4 a1 a3 hl4)))))

set_option maxHeartbeats 4000000 in
set_option maxRecDepth 100000 in
theorem kS_loop {p : Program} {l : Launch} {e : Env} {s : State} {m : MethodId} {below : List Frame} {meth : Method} {c : Code} {b L : Nat} {xs : Nat → Int32} {A0 : Nat → Prop} {D : va_G} {cy : Nat → ClassId} {e0 mi vo ha ra ga : Nat} {hf : Nat → Int32} {Q : State → Prop} (hLE : LE p l s m c b L xs A0 D cy e0 mi) (kk : ∀ (μ : Nat → Nat → Int32) (nn nc : Nat) (w : va_W) (af gf : Nat → Int32) (H : Heap) (locs : List Loc) (ls : Array Slot), LW s A0 D cy e0 vo ha ra ga hf af gf μ nn nc w H locs → nn ≤ 20 → nc ≤ 60 → lv_has ls 23 [(0, .ref b), (1, .ref vo), (2, .ref ha), (3, .ref ra), (4, .ref ga), (5, .int (nI 6)), (6, .int (nI nn)), (7, .int (nI 1)), (8, .int (nI 60))] → W p l e room_1 s m #[Value.ref b] below meth c H locs 2000 1500000 Q (F0 m 1378 ls [])) : ∀ (d k1 : Nat) (μ : Nat → Nat → Int32) (nn nc : Nat) (w : va_W) (af gf : Nat → Int32) (H : Heap) (locs : List Loc) (ls : Array Slot) (cells slots : Nat), k1 + d = 60 → nc ≤ k1 → nn ≤ 20 → cells + 24 * d ≤ 2000 → slots + 24702 * d ≤ 1500000 → LW s A0 D cy e0 vo ha ra ga hf af gf μ nn nc w H locs → lv_has ls 23 [(0, .ref b), (1, .ref vo), (2, .ref ha), (3, .ref ra), (4, .ref ga), (5, .int (nI 6)), (6, .int (nI nn)), (7, .int (nI 1)), (8, .int (nI k1))] → W p l e room_1 s m #[Value.ref b] below meth c H locs cells slots Q (F0 m 89 ls []) := by
  obtain ⟨⟨hx, hb, hml, hown, hts⟩, -, -, -, -⟩ := id hLE
  intro d
  induction d with
  | zero =>
    intro k1 μ nn nc w af gf H locs ls cells slots h1 h2 h3 h4 h5 hLW hl
    have e9 : k1 = 60 := by omega
    subst e9
    refine lv_iload hx hb dL_law_89 (lv_at hl 8 rfl) ?_
    refine lv_bipush (v := 60) hx hb dL_law_91 (by decide) ?_
    refine vg_tp (nI 60) (by decide) ?_
    refine lv_icmp_ge (tgt := 1378) hx hb dL_law_93 (by decide) (fun _ => ?_) (fun z9 => absurd ((nI_leI (a := 60) (b := 60) (by omega) (by omega)).mpr (by omega)) z9)
    refine W.widen (k := 2000) (n := 1500000) (by omega) (by omega) ?_
    exact kk μ nn nc w af gf H locs ls hLW h3 h2 hl
  | succ d ih =>
    intro k1 μ nn nc w af gf H locs ls cells slots h1 h2 h3 h4 h5 hLW hl
    refine lv_iload hx hb dL_law_89 (lv_at hl 8 rfl) ?_
    refine lv_bipush (v := 60) hx hb dL_law_91 (by decide) ?_
    refine vg_tp (nI 60) (by decide) ?_
    refine lv_icmp_ge (tgt := 1378) hx hb dL_law_93 (by decide) (fun z9 => absurd z9 (fun q9 => absurd ((nI_leI (a := 60) (b := k1) (by omega) (by omega)).mp q9) (by omega))) (fun _ => ?_)
    refine lv_iload hx hb dL_law_96 (lv_at hl 7 rfl) ?_
    refine lv_if_eq (tgt := 1378) hx hb dL_law_98 (by decide) (fun z9 => absurd z9 (fun q9 => absurd ((nI_eq (a := 1) (b := 0) (by omega) (by omega)).mp q9) (by omega))) (fun _ => ?_)
    exact kS_step hLE hLW h3 (by omega) (by omega) (by omega) (by omega) hl (fun μ' nn' nc' w' af' gf' H' locs' ls' hLW' a1 a3 hl' => ih (k1 + 1) μ' nn' nc' w' af' gf' H' locs' ls' _ _ (by omega) (by omega) a1 (by omega) (by omega) hLW' hl')
