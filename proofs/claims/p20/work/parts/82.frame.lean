/-! p20: a call over a part of the class's world -/
theorem vN_in {w Wc Wr : va_W} {sz q : Nat} (hp : w.Perm (wJ Wc Wr)) (h : va_A Wc sz q) : va_A w sz q := by
  rcases h with ⟨k, e, h⟩ | h
  · exact va_A_mem (q := (q, e)) (hp.mem_iff.mpr (List.mem_append_left _ (List.mem_of_getElem? h)))
  · exact Or.inr h
theorem vN_P {D : va_G} {cy : Nat → ClassId} {e0 mi sz : Nat} {av : List Value} {w Wc Wr : va_W} (hp : w.Perm (wJ Wc Wr)) {a : Array Value} {U : State} (h : vh_P D cy e0 mi av sz w a U) : vh_P D cy e0 mi av sz Wc a U := by
  obtain ⟨q0, q1, q2, q3, q4, q5, q6⟩ := h
  exact ⟨q0, q1, (vp_app.mp (vp_perm q2 hp)).1, q3, (vd_app.mp (vd_perm hp q4)).1, q5, vh_Z.call (A0 := va_A w sz) (s := U) (H := U.heap) (locs := []) q6 va_S.rf (fun q hq => vN_in hp hq) (Vm.Alike.refl _) rfl⟩
theorem vN_J {D : va_G} {cy : Nat → ClassId} {e0 mi sz : Nat} {av : List Value} {w Wc Wr w1 : va_W} (hp : w.Perm (wJ Wc Wr)) {a : Array Value} {s t : State} (h : vh_P D cy e0 mi av sz w a s) (hF : va_F (va_A Wc sz) s t) (hP1 : va_P D vwCl w1 t.heap) (hD1 : va_D (va_A Wc sz) w1) : (va_P D vwCl (wJ w1 Wr) t.heap ∧ va_D (va_A w sz) (wJ w1 Wr)) ∧ va_F (va_A w sz) s t := by
  obtain ⟨q0, q1, q2, q3, q4, q5, q6⟩ := h
  subst q1
  have q4 := q4.self (sz := s.heap.size)
  exact ⟨vj_join (vp_perm q2 hp) (vd_perm hp q4) hF.2 (fun q hq => vN_in hp hq) hP1 hD1, hF.1, fun q h1 h2 => hF.2 q h1 (fun z => h2 (vN_in hp z))⟩
theorem vN_i {S S' : Type} {l : Launch} {D : va_G} {cy : Nat → ClassId} {e0 mi : Nat} {y : MethodName} {ws : List Cond} {rm : Room} {av : List Value} {sz : Nat} {w Wc Wr : va_W} {post : Int32 → S → Prop} {post' : Int32 → S' → Prop} {W1 : S → va_W} {W2 : S' → va_W} {mc ms : Nat} (F : S → S') (hp : w.Perm (wJ Wc Wr)) (hW : ∀ u, (wJ (W1 u) Wr).Perm (W2 (F u))) (hM : Met l y ws rm (vh_P D cy e0 mi av sz Wc) (vg_Qi (S := S) D sz Wc post W1) mc ms (va_A Wc sz)) (hq : ∀ r u, post r u → post' r (F u)) : Met l y ws rm (vh_P D cy e0 mi av sz w) (vg_Qi (S := S') D sz w post' W2) mc ms (va_A w sz) :=
  MetFree.mono hM (fun a s h => vN_P hp h) (fun _ _ _ _ _ h => h) (fun a s o t hpre h => by
    obtain ⟨⟨⟨r, u, e, hp1, hB1, hB2⟩, hF⟩, L, hL1, hL2⟩ := h
    obtain ⟨⟨g1, g2⟩, g3⟩ := vN_J hp hpre hF hB1 hB2
    exact ⟨⟨⟨r, F u, e, hq r u hp1, vp_perm g1 (hW u), vd_perm (hW u) g2⟩, g3⟩, L, hL1, fun q hq => vN_in hp (hL2 q hq)⟩)
theorem vN_v {S S' : Type} {l : Launch} {D : va_G} {cy : Nat → ClassId} {e0 mi : Nat} {y : MethodName} {ws : List Cond} {rm : Room} {av : List Value} {sz : Nat} {w Wc Wr : va_W} {post : S → Prop} {post' : S' → Prop} {W1 : S → va_W} {W2 : S' → va_W} {mc ms : Nat} (F : S → S') (hp : w.Perm (wJ Wc Wr)) (hW : ∀ u, (wJ (W1 u) Wr).Perm (W2 (F u))) (hM : Met l y ws rm (vh_P D cy e0 mi av sz Wc) (vg_Qv (S := S) D sz Wc post W1) mc ms (va_A Wc sz)) (hq : ∀ u, post u → post' (F u)) : Met l y ws rm (vh_P D cy e0 mi av sz w) (vg_Qv (S := S') D sz w post' W2) mc ms (va_A w sz) :=
  MetFree.mono hM (fun a s h => vN_P hp h) (fun _ _ _ _ _ h => h) (fun a s o t hpre h => by
    obtain ⟨⟨⟨u, e, hp1, hB1, hB2⟩, hF⟩, L, hL1, hL2⟩ := h
    obtain ⟨⟨g1, g2⟩, g3⟩ := vN_J hp hpre hF hB1 hB2
    exact ⟨⟨⟨F u, e, hq u hp1, vp_perm g1 (hW u), vd_perm (hW u) g2⟩, g3⟩, L, hL1, fun q hq => vN_in hp (hL2 q hq)⟩)
/-- a call that only reads -/
theorem vN_r {l : Launch} {D : va_G} {cy : Nat → ClassId} {e0 mi : Nat} {y : MethodName} {ws : List Cond} {rm : Room} {av : List Value} {sz : Nat} {w Wc Wr : va_W} {post post' : Int32 → Unit → Prop} {mc ms : Nat} (hp : w.Perm (wJ Wc Wr)) (hM : Met l y ws rm (vh_P D cy e0 mi av sz Wc) (vg_Qi (S := Unit) D sz Wc post (fun _ => Wc)) mc ms (va_A Wc sz)) (hq : ∀ r u, post r u → post' r u) : Met l y ws rm (vh_P D cy e0 mi av sz w) (vg_Qi (S := Unit) D sz w post' (fun _ => w)) mc ms (va_A w sz) := vN_i (fun u => u) hp (fun _ => hp.symm) hM hq
theorem vm_Qi {S : Type} {l : Launch} {y : MethodName} {ws : List Cond} {rm : Room} {Pc : Array Value → State → Prop} {D : va_G} {sz : Nat} {W : va_W} {post : Int32 → S → Prop} {W1 : S → va_W} {post' : Int32 → va_W → Prop} {mc ms : Nat} {fr : Addr → Prop} (h : Met l y ws rm Pc (vg_Qi (S := S) D sz W post W1) mc ms fr) (hp : ∀ r u, post r u → post' r (W1 u)) : Met l y ws rm Pc (vg_Qi (S := va_W) D sz W post' (fun w => w)) mc ms fr :=
  MetFree.mono h (fun _ _ q => q) (fun _ _ _ _ _ q => q) (fun a s o t _ q => by
    obtain ⟨⟨⟨r, u, e, hp1, hB⟩, hF⟩, hr⟩ := q
    exact ⟨⟨⟨r, W1 u, e, hp r u hp1, hB⟩, hF⟩, hr⟩)
/-! what the relation says in the state's own words -/
theorem CI_perm {cy : Nat → ClassId} {e0 vo n : Nat} {μ : Nat → Nat → Int32} {w w2 : va_W} (h : CI cy e0 vo n μ w) (hp : w2.Perm w) : CI cy e0 vo n μ w2 := by
  obtain ⟨sv, hm, nt, nw, np, nc, χ, sa, nm, nd, nca, NL, nka, nκ, nζ, nα, nau, nkd, nna, nth, nwe, nso, α, fk, fp, fa, ft, g, h, κ, ζ, L, P, lI, pI, dl, δ, e, q⟩ := h
  exact ⟨sv, hm, nt, nw, np, nc, χ, sa, nm, nd, nca, NL, nka, nκ, nζ, nα, nau, nkd, nna, nth, nwe, nso, α, fk, fp, fa, ft, g, h, κ, ζ, L, P, lI, pI, dl, δ, hp.trans e, q⟩
theorem nI_inj {a b : Nat} (ha : a < 2 ^ 31) (hb : b < 2 ^ 31) (h : nI a = nI b) : a = b := (nI_eq ha hb).mp h
/-- what is known of the state where the class stands for it -/
theorem CI_ref {cy : Nat → ClassId} {e0 vo n nc nn : Nat} {μ : Nat → Nat → Int32} {w : va_W} (h : CI cy e0 vo n μ w) (hn : n < 511) (h17 : μ 17 0 = nI nc) (hc : nc < 512) (h11 : μ 11 0 = nI nn) (hnn : nn ≤ 50) : mWF μ ∧ (∀ j, j < 4 → isN (μ 25 j) (2 * n + 1)) ∧ (∀ j, j < 4 → isN (μ 24 j) 1201 ∧ tn (μ 24 j) ≤ tn (μ 25 j)) ∧ (∀ s j, s < 4 → nc ≤ j → j < 600 → μ 22 (600 * s + j) = 0) ∧ (∀ s, s < 4 → ¬ tn (μ 24 s) = tn (μ 25 s) → mDlvA μ s < nc) ∧ (∀ s j, s < 4 → nn ≤ j → j < 50 → μ 9 (50 * s + j) = 0) ∧ (∀ j, j < nn → μ 15 j < 0 ∨ tn (μ 15 j) < nn) ∧ ∀ a, a < nc → tn (μ 18 a) < 11 := by
  obtain ⟨sv, hm, nt, nw, np, nc', χ, sa, nm, nd, nca, NL, nka, nκ, nζ, nα, nau, nkd, nna, nth, nwe, nso, α, fk, fp, fa, ft, g, h, κ, ζ, L, P, lI, pI, dl, δ, e, hP, hR, h5, hS, h7, hnc⟩ := h
  obtain ⟨h0, hW, hA, h2, h3, h4, hS, h6⟩ := hR
  have e1 : nc' = nc := nI_inj (by have := h0.2.2.1.2; omega) (by omega) (h0.2.2.1.1.symm.trans h17)
  subst e1
  have e2 : NL.length = nn := nI_inj (by have := h0.2.2.2.2; omega) (by omega) (h0.2.2.2.1.symm.trans h11)
  rw [e2] at h2 h4
  have hl : ∀ j, j < 4 → tn (μ 25 j) = (pI j).length ∧ tn (μ 24 j) = dl j := fun j hj => by
    have := h6.2.1 j hj
    rw [(h6.1 j hj).1, (h6.2.1 j hj).1, tn_nI (by omega), tn_nI (by omega)]
    exact ⟨rfl, rfl⟩
  refine ⟨hW, fun j hj => ?_, fun j hj => ?_, fun s j hs hj hj2 => (hS s hs).2.2.2.1.2.1 j hj hj2, fun s hs hne => ?_, fun s j hs hj hj2 => h4.2.1 s j hs hj hj2, fun j hj => ?_, fun a ha => ?_⟩
  · rw [(h6.1 j hj).1]
    exact isN_nI (by have := (h6.2.1 j hj).2.2; omega) (by omega)
  · obtain ⟨g1, g2, g3⟩ := h6.2.1 j hj
    rw [(hl j hj).1, (hl j hj).2]
    refine ⟨?_, g2⟩
    rw [g1]
    exact isN_nI (by omega) (by omega)
  · obtain ⟨g1, g2, g3⟩ := h6.2.1 s hs
    rw [(hl s hs).1, (hl s hs).2] at hne
    obtain ⟨a, ha⟩ : ∃ a, (pI s)[dl s]? = some a := ⟨_, List.getElem?_eq_getElem (show dl s < (pI s).length by omega)⟩
    obtain ⟨y1, y2⟩ := (h6.1 s hs).2 _ _ ha
    rw [mDlvA, (hl s hs).2, y2, tn_nI (by omega)]
    exact y1
  · obtain ⟨-, -, -, -, p5⟩ := h2 j hj
    rcases p5 with ⟨-, p7⟩ | ⟨r, hr, p6, p7⟩
    · exact Or.inl (by rw [p7]; decide)
    · exact Or.inr (by rw [p6, tn_nI (by omega)]; exact hr)
  · obtain ⟨⟨e1, -⟩, b1, -⟩ := hA a ha
    rw [e1, tn_nI (by omega)]
    exact b1
/-- the numbers of calls, taken anew -/
theorem CI_tight {cy : Nat → ClassId} {e0 vo n nc : Nat} {μ : Nat → Nat → Int32} {w : va_W} (h : CI cy e0 vo n μ w) (hn : n < 511) (m : Nat) (h17 : μ 17 0 = nI nc) (hc : nc < 512) (hm : nc ≤ m) (hk : ∀ i, i < 4 → tn (μ 25 i) ≤ 2 * m) : CI cy e0 vo m μ w := by
  obtain ⟨sv, hm2, nt, nw, np, nc', χ, sa, nm, nd, nca, NL, nka, nκ, nζ, nα, nau, nkd, nna, nth, nwe, nso, α, fk, fp, fa, ft, g, h, κ, ζ, L, P, lI, pI, dl, δ, e, hP, hR, h5, hS, h7, hnc⟩ := h
  obtain ⟨h0, hW, hA, h2, h3, h4, hSs, h6⟩ := hR
  have e1 : nc' = nc := nI_inj (by have := h0.2.2.1.2; omega) (by omega) (h0.2.2.1.1.symm.trans h17)
  refine ⟨sv, hm2, nt, nw, np, nc', χ, sa, nm, nd, nca, NL, nka, nκ, nζ, nα, nau, nkd, nna, nth, nwe, nso, α, fk, fp, fa, ft, g, h, κ, ζ, L, P, lI, pI, dl, δ, e, hP, ⟨h0, hW, hA, h2, h3, h4, hSs, h6.1, fun i hi => ?_, h6.2.2⟩, h5, hS, h7, by omega⟩
  obtain ⟨g1, g2, g3⟩ := h6.2.1 i hi
  refine ⟨g1, g2, ?_⟩
  have := hk i hi
  rw [(h6.1 i hi).1, tn_nI (by omega)] at this
  exact this
theorem CI_thr {cy : Nat → ClassId} {e0 vo n : Nat} {μ : Nat → Nat → Int32} {w : va_W} (h : CI cy e0 vo n μ w) (v : Nat → Int32) : CI cy e0 vo (n + 1) (va_up μ 0 v) w := by
  obtain ⟨sv, hm, nt, nw, np, nc, χ, sa, nm, nd, nca, NL, nka, nκ, nζ, nα, nau, nkd, nna, nth, nwe, nso, α, fk, fp, fa, ft, g, h, κ, ζ, L, P, lI, pI, dl, δ, e, hP, hR, h5, hS, h7, hn⟩ := h
  obtain ⟨r0, r1, r2, r3, r4, r5, r6, r7⟩ := RR_0 hR v
  exact ⟨sv, hm, nt, nw, np, nc, χ, sa, nm, nd, nca, NL, nka, nκ, nζ, nα, nau, nkd, nna, nth, nwe, nso, α, fk, fp, fa, ft, g, h, κ, ζ, L, P, lI, pI, dl, δ, e, hP, ⟨r0, r1, r2, r3, r4, r5, r6, q6_mono r7 (by omega)⟩, b5_rows h5 rfl, bS_rows hS rfl rfl, h7, by omega⟩
