/-! p20: the calls that read, in the state's words -/

theorem NL_nn {np nc nn nn' : Nat} {χ nau : Nat → Nat} {nkd nna nth nwe nso : Nat → Int32} {fk fp fa : Nat → Nat} {ft : Nat → Int32} {κ : Nat → Nat → Nat → Int32} {ζ : Nat → Nat → Nat → Int64} {lI pI : Nat → List Nat} {dl : Nat → Nat} {δ : Nat → Nat → Int32} {μ : Nat → Nat → Int32} {N : Nat} (h : RR np nc nn' χ nau nkd nna nth nwe nso fk fp fa ft κ ζ lI pI dl δ μ N) (h11 : μ 11 0 = nI nn ∧ nn ≤ 50) : nn' = nn := nI_inj (by have := h.1.2.2.2.2; omega) (by omega) (h.1.2.2.2.1.symm.trans h11.1)

theorem kN_between (l : Launch) (hfl : l.stackTraces = false) (D : va_G) (cy : Nat → ClassId) (sz e0 mi vo n : Nat) (μ : Nat → Nat → Int32) (w : va_W) (hI : CI cy e0 vo n μ w) (hn : n < 511) (h6 : μ 1 0 = nI 6) {s p q : Nat} (hs : s < 4) (hp : p < 6) (hq : q < 6) : Met l yX4_between wsX4_between ({ frames := 2, cells := 0, slots := 0, locals := 43 }) (vh_P D cy e0 mi [.ref vo, .int (nI s), .int (nI p), .int (nI q)] sz w) (vg_Qi (S := Unit) D sz w (fun r _ => r = mBetR μ (nI s) (nI p) (nI q)) (fun _ => w)) 0 0 (va_A w sz) := by
  have hI0 := hI
  obtain ⟨sw, hm, nt, nw, np, nc, χ, sa, nm, nd, nca, NL, nka, nκ, nζ, nα, nau, nkd, nna, nth, nwe, nso, α, fk, fp, fa, ft, g, h, κ, ζ, L, P, lI, pI, dl, δ, e, hP, hR, h5, hS, h7, hnc⟩ := hI
  have e6 : np = 6 := nI_inj (by have := hR.1.1.2; omega) (by omega) (hR.1.1.1.symm.trans h6)
  subst e6
  have n2 := hR.1.1.2
  have hχ : ∀ j, j < 10 → χ j < 4 := fun j hj => (hR.1.2.1 j hj).2
  have hl := RR_len hR α (by omega)
  have hok := hP.1
  have hLe : vq_len L 1023 ∧ vq_len P 1023 := ⟨fun i hi => by rw [(hP.2.2.2.2.2 i hi).1]; exact hl.1 i hi, fun i hi => by rw [(hP.2.2.2.2.2 i hi).2]; exact hl.2 i hi⟩
  have n7 := hR.1.2.2.2.2
  rw [mBet_RR hR hs hp hq]
  exact vN_r (Wc := (wJ (uVP vo sw hm nt nw 6 nc) (wJ (uSV cy sw sa) (fam4 (Sv cy sa g h κ ζ L P dl δ))))) (Wr := (wJ (uHM cy hm χ) (wJ (uLO nt nm nd NL) (wJ (Kw cy nw nka nκ nζ) (wJ (La cy nd nca NL) (wJ (pool NL.length (Nc nα nau nkd nna nth nwe nso)) (pool nc (Ac α fk fp fa ft)))))))) (e.trans (by unfold CW; exact vp_pc (fun n9 hn9 h90 => by simp only [wJ, hn9, h90, Nat.add_zero, Nat.zero_add] <;> ac_rfl))) (kX4_between l D cy sz e0 mi vo sw hm nt nw 6 nc sa g h κ ζ L P dl δ s p q hs hp hq n2) (fun _ _ h => h)

theorem kN_ofServer (l : Launch) (hfl : l.stackTraces = false) (D : va_G) (cy : Nat → ClassId) (sz e0 mi vo n : Nat) (μ : Nat → Nat → Int32) (w : va_W) (hI : CI cy e0 vo n μ w) (hn : n < 511) (h6 : μ 1 0 = nI 6) {s i : Nat} (hs : s < 4) (hi : i < 6) : Met l yX4_ofServer wsX4_ofServer ({ frames := 3, cells := 0, slots := 0, locals := 62 }) (vh_P D cy e0 mi [.ref vo, .int (nI s), .int (nI i)] sz w) (vg_Qi (S := Unit) D sz w (fun r _ => r = mOfsR μ (nI s) (nI i)) (fun _ => w)) 0 0 (va_A w sz) := by
  have hI0 := hI
  obtain ⟨sw, hm, nt, nw, np, nc, χ, sa, nm, nd, nca, NL, nka, nκ, nζ, nα, nau, nkd, nna, nth, nwe, nso, α, fk, fp, fa, ft, g, h, κ, ζ, L, P, lI, pI, dl, δ, e, hP, hR, h5, hS, h7, hnc⟩ := hI
  have e6 : np = 6 := nI_inj (by have := hR.1.1.2; omega) (by omega) (hR.1.1.1.symm.trans h6)
  subst e6
  have n2 := hR.1.1.2
  have hχ : ∀ j, j < 10 → χ j < 4 := fun j hj => (hR.1.2.1 j hj).2
  have hl := RR_len hR α (by omega)
  have hok := hP.1
  have hLe : vq_len L 1023 ∧ vq_len P 1023 := ⟨fun i hi => by rw [(hP.2.2.2.2.2 i hi).1]; exact hl.1 i hi, fun i hi => by rw [(hP.2.2.2.2.2 i hi).2]; exact hl.2 i hi⟩
  have n7 := hR.1.2.2.2.2
  have gg := hR.2.2.2.2.2.2.2.2.1 s hs
  have eP : (P s).length = (pI s).length := by rw [(hP.2.2.2.2.2 s hs).2, List.length_map]
  have eL : (L s).length = (lI s).length := by rw [(hP.2.2.2.2.2 s hs).1, List.length_map]
  rw [mOfs_RR hR hs hi (by omega)]
  exact vN_r (Wc := (wJ (uVP vo sw hm nt nw 6 nc) (wJ (uSV cy sw sa) (fam4 (Sv cy sa g h κ ζ L P dl δ))))) (Wr := (wJ (uHM cy hm χ) (wJ (uLO nt nm nd NL) (wJ (Kw cy nw nka nκ nζ) (wJ (La cy nd nca NL) (wJ (pool NL.length (Nc nα nau nkd nna nth nwe nso)) (pool nc (Ac α fk fp fa ft)))))))) (e.trans (by unfold CW; exact vp_pc (fun n9 hn9 h90 => by simp only [wJ, hn9, h90, Nat.add_zero, Nat.zero_add] <;> ac_rfl))) (kX4_ofServer l D cy sz e0 mi vo sw hm nt nw 6 nc sa g h κ ζ L P dl δ s i hs hi (by rw [eP]; exact gg.2.1) (by rw [eP]; omega)) (fun r u h => by rw [← eP, ← eL]; exact h)

theorem kN_sees (l : Launch) (hfl : l.stackTraces = false) (D : va_G) (cy : Nat → ClassId) (sz e0 mi vo n : Nat) (μ : Nat → Nat → Int32) (w : va_W) (hI : CI cy e0 vo n μ w) (hn : n < 511) (h6 : μ 1 0 = nI 6) {nn p i : Nat} (h11 : μ 11 0 = nI nn ∧ nn ≤ 50) (hp : p < 6) (hi : i < nn) : Met l yX4_sees wsX4_sees ({ frames := 3, cells := 0, slots := 0, locals := 66 }) (vh_P D cy e0 mi [.ref vo, .int (nI p), .int (nI i)] sz w) (vg_Qi (S := Unit) D sz w (fun r _ => r = bI (mSeen μ p i)) (fun _ => w)) 0 0 (va_A w sz) := by
  have hI0 := hI
  obtain ⟨sw, hm, nt, nw, np, nc, χ, sa, nm, nd, nca, NL, nka, nκ, nζ, nα, nau, nkd, nna, nth, nwe, nso, α, fk, fp, fa, ft, g, h, κ, ζ, L, P, lI, pI, dl, δ, e, hP, hR, h5, hS, h7, hnc⟩ := hI
  have e6 : np = 6 := nI_inj (by have := hR.1.1.2; omega) (by omega) (hR.1.1.1.symm.trans h6)
  subst e6
  have n2 := hR.1.1.2
  have hχ : ∀ j, j < 10 → χ j < 4 := fun j hj => (hR.1.2.1 j hj).2
  have hl := RR_len hR α (by omega)
  have hok := hP.1
  have hLe : vq_len L 1023 ∧ vq_len P 1023 := ⟨fun i hi => by rw [(hP.2.2.2.2.2 i hi).1]; exact hl.1 i hi, fun i hi => by rw [(hP.2.2.2.2.2 i hi).2]; exact hl.2 i hi⟩
  have n7 := hR.1.2.2.2.2
  rw [← NL_nn hR h11] at hi
  rw [mSeen_RR hR hp hi]
  exact vN_r (Wc := (wJ (uVP vo sw hm nt nw 6 nc) (wJ (uHM cy hm χ) (wJ (uSV cy sw sa) (wJ (uLO nt nm nd NL) (wJ (La cy nd nca NL) (wJ (pool NL.length (Nc nα nau nkd nna nth nwe nso)) (fam4 (Sv cy sa g h κ ζ L P dl δ))))))))) (Wr := (wJ (Kw cy nw nka nκ nζ) (pool nc (Ac α fk fp fa ft)))) (e.trans (by unfold CW; exact vp_pc (fun n9 hn9 h90 => by simp only [wJ, hn9, h90, Nat.add_zero, Nat.zero_add] <;> ac_rfl))) (kX4_sees l D cy sz e0 mi vo sw hm nt nw 6 nc χ sa nm nd nca NL nα nau nkd nna nth nwe nso g h κ ζ L P dl δ p i hp n2 hχ n7 hP.2.2.1 hP.2.2.2.1 (fun j hj => by have := (hR.2.2.2.1 j hj).2.1; omega) hi) (fun _ _ h => h)

theorem kN_home (l : Launch) (hfl : l.stackTraces = false) (D : va_G) (cy : Nat → ClassId) (sz e0 mi vo n : Nat) (μ : Nat → Nat → Int32) (w : va_W) (hI : CI cy e0 vo n μ w) (hn : n < 511) (h6 : μ 1 0 = nI 6) {nn p j : Nat} (h11 : μ 11 0 = nI nn ∧ nn ≤ 50) (hp : p < 6) (hj : j < 2 ^ 31) : Met l yX4_home wsX4_home ({ frames := 4, cells := 0, slots := 0, locals := 90 }) (vh_P D cy e0 mi [.ref vo, .int (nI p), .int (nI j)] sz w) (vg_Qi (S := Unit) D sz w (fun r _ => r = mHomF μ p nn (nI j)) (fun _ => w)) 0 0 (va_A w sz) := by
  have hI0 := hI
  obtain ⟨sw, hm, nt, nw, np, nc, χ, sa, nm, nd, nca, NL, nka, nκ, nζ, nα, nau, nkd, nna, nth, nwe, nso, α, fk, fp, fa, ft, g, h, κ, ζ, L, P, lI, pI, dl, δ, e, hP, hR, h5, hS, h7, hnc⟩ := hI
  have e6 : np = 6 := nI_inj (by have := hR.1.1.2; omega) (by omega) (hR.1.1.1.symm.trans h6)
  subst e6
  have n2 := hR.1.1.2
  have hχ : ∀ j, j < 10 → χ j < 4 := fun j hj => (hR.1.2.1 j hj).2
  have hl := RR_len hR α (by omega)
  have hok := hP.1
  have hLe : vq_len L 1023 ∧ vq_len P 1023 := ⟨fun i hi => by rw [(hP.2.2.2.2.2 i hi).1]; exact hl.1 i hi, fun i hi => by rw [(hP.2.2.2.2.2 i hi).2]; exact hl.2 i hi⟩
  have n7 := hR.1.2.2.2.2
  have en := NL_nn hR h11
  have hh : mHomF μ p NL.length (nI j) = cHom (fun n9 => kAth (κ (χ p)) (ζ (χ p)) p n9 (nau n9) (nkd n9) (nna n9)) (nI j) NL.length 0 := mHomF_c hR hp hj NL.length 0 (Nat.le_refl _) (Nat.zero_le _)
  rw [← en, hh]
  exact vN_r (Wc := (wJ (uVP vo sw hm nt nw 6 nc) (wJ (uHM cy hm χ) (wJ (uSV cy sw sa) (wJ (uLO nt nm nd NL) (wJ (La cy nd nca NL) (wJ (pool NL.length (Nc nα nau nkd nna nth nwe nso)) (fam4 (Sv cy sa g h κ ζ L P dl δ))))))))) (Wr := (wJ (Kw cy nw nka nκ nζ) (pool nc (Ac α fk fp fa ft)))) (e.trans (by unfold CW; exact vp_pc (fun n9 hn9 h90 => by simp only [wJ, hn9, h90, Nat.add_zero, Nat.zero_add] <;> ac_rfl))) (kX4_home l D cy sz e0 mi vo sw hm nt nw 6 nc χ sa nm nd nca NL nα nau nkd nna nth nwe nso g h κ ζ L P dl δ p (nI j) hp n2 hχ n7 hP.2.2.1 hP.2.2.2.1 (fun j hj => by have := (hR.2.2.2.1 j hj).2.1; omega) (nI_pos hj)) (fun _ _ h => h)

theorem kN_seesAnew (l : Launch) (hfl : l.stackTraces = false) (D : va_G) (cy : Nat → ClassId) (sz e0 mi vo n : Nat) (μ : Nat → Nat → Int32) (w : va_W) (hI : CI cy e0 vo n μ w) (hn : n < 511) (h6 : μ 1 0 = nI 6) {nn p i : Nat} (h11 : μ 11 0 = nI nn ∧ nn ≤ 50) (hp : p < 6) (hi : i < nn) : Met l yX4_seesAnew wsX4_seesAnew ({ frames := 4, cells := 0, slots := 0, locals := 88 }) (vh_P D cy e0 mi [.ref vo, .int (nI p), .int (nI i)] sz w) (vg_Qi (S := va_W) D sz w (fun r u => r = bI (mSeen μ p i) ∧ CI cy e0 vo n μ u) (fun u => u)) 0 0 (va_A w sz) := by
  have hI0 := hI
  obtain ⟨sw, hm, nt, nw, np, nc, χ, sa, nm, nd, nca, NL, nka, nκ, nζ, nα, nau, nkd, nna, nth, nwe, nso, α, fk, fp, fa, ft, g, h, κ, ζ, L, P, lI, pI, dl, δ, e, hP, hR, h5, hS, h7, hnc⟩ := hI
  have e6 : np = 6 := nI_inj (by have := hR.1.1.2; omega) (by omega) (hR.1.1.1.symm.trans h6)
  subst e6
  have n2 := hR.1.1.2
  have hχ : ∀ j, j < 10 → χ j < 4 := fun j hj => (hR.1.2.1 j hj).2
  have hl := RR_len hR α (by omega)
  have hok := hP.1
  have hLe : vq_len L 1023 ∧ vq_len P 1023 := ⟨fun i hi => by rw [(hP.2.2.2.2.2 i hi).1]; exact hl.1 i hi, fun i hi => by rw [(hP.2.2.2.2.2 i hi).2]; exact hl.2 i hi⟩
  have n7 := hR.1.2.2.2.2
  rw [← NL_nn hR h11] at hi
  have hD := (hR.2.2.2.2.2.2.1 _ (hχ p (by omega))).2.2.2.1
  have hlI : ∀ x ∈ lI (χ p), x < nc := fun x hx => ((hD.2.2.2 x).mp hx).1
  have hln := nodup_len nc (lI (χ p)) hD.2.2.1 hlI
  rw [← anew_RR hR nκ nζ hp hi]
  refine vN_i (Wc := (wJ (uVP vo sw hm nt nw 6 nc) (wJ (uHM cy hm χ) (wJ (uSV cy sw sa) (wJ (uLO nt nm nd NL) (wJ (Kw cy nw nka nκ nζ) (wJ (La cy nd nca NL) (wJ (pool NL.length (Nc nα nau nkd nna nth nwe nso)) (wJ (pool nc (Ac α fk fp fa ft)) (fam4 (Sv cy sa g h κ ζ L P dl δ))))))))))) (Wr := ([] : va_W)) (W2 := fun u => u) (fun _ => wJ (wJ (uVP vo sw hm nt nw 6 nc) (wJ (uHM cy hm χ) (wJ (uSV cy sw sa) (wJ (uLO nt nm nd NL) (wJ (Kw cy nw nka (kRep fk fp fa ft (kFg nκ 10) (lI (χ p))) (zRep fk fp fa (zFg0 nζ) (lI (χ p)))) (wJ (La cy nd nca NL) (wJ (pool NL.length (Nc nα nau nkd nna nth nwe nso)) (wJ (pool nc (Ac α fk fp fa ft)) (fam4 (Sv cy sa g h κ ζ L P dl δ)))))))))) ([] : va_W)) (e.trans (by unfold CW; exact vp_pc (fun n9 hn9 h90 => by simp only [wJ, hn9, h90, Nat.add_zero, Nat.zero_add] <;> ac_rfl))) (fun _ => List.Perm.refl _) (kX4_seesAnew l D cy sz e0 mi vo sw hm nt nw 6 nc χ sa nm nd nca NL nα nau nkd nna nth nwe nso α fk fp fa ft g h κ ζ L P dl δ p i nka nκ nζ (lI (χ p)) hp n2 hχ n7 hP.2.2.1 hP.2.2.2.1 (fun j hj => by have := (hR.2.2.2.1 j hj).2.1; omega) hi hok (hP.2.2.2.2.2 _ (hχ p (by omega))).1 hlI (by omega) (fun j hj => ⟨(hR.2.2.1 j hj).2.1, by have := (hR.2.2.1 j hj).2.2.1; omega, fun q => by have := (hR.2.2.1 j hj).2.2.2.1 q; omega⟩)) (fun r u hr => ⟨hr, ?_⟩)
  exact ⟨sw, hm, nt, nw, 6, nc, χ, sa, nm, nd, nca, NL, nka, kRep fk fp fa ft (kFg nκ 10) (lI (χ p)), zRep fk fp fa (zFg0 nζ) (lI (χ p)), nα, nau, nkd, nna, nth, nwe, nso, α, fk, fp, fa, ft, g, h, κ, ζ, L, P, lI, pI, dl, δ, (by unfold CW; exact vp_pc (fun n9 hn9 h90 => by simp only [wJ, hn9, h90, Nat.add_zero, Nat.zero_add] <;> ac_rfl)), hP, hR, h5, hS, h7, hnc⟩

theorem kN_repeat_no (l : Launch) (hfl : l.stackTraces = false) (D : va_G) (cy : Nat → ClassId) (sz e0 mi vo n : Nat) (μ : Nat → Nat → Int32) (w : va_W) (hI : CI cy e0 vo n μ w) (hn : n < 511) (h6 : μ 1 0 = nI 6) {s : Nat} (hs : s < 4) (hd : tn (μ 24 s) = 0) : Met l yX4_repeat wsX4_repeat ({ frames := 1, cells := 0, slots := 0, locals := 20 }) (vh_P D cy e0 mi [.ref vo, .int (nI s)] sz w) (vg_Qi (S := Unit) D sz w (fun r _ => r = mRepR μ (nI s)) (fun _ => w)) 0 0 (va_A w sz) := by
  have hI0 := hI
  obtain ⟨sw, hm, nt, nw, np, nc, χ, sa, nm, nd, nca, NL, nka, nκ, nζ, nα, nau, nkd, nna, nth, nwe, nso, α, fk, fp, fa, ft, g, h, κ, ζ, L, P, lI, pI, dl, δ, e, hP, hR, h5, hS, h7, hnc⟩ := hI
  have e6 : np = 6 := nI_inj (by have := hR.1.1.2; omega) (by omega) (hR.1.1.1.symm.trans h6)
  subst e6
  have n2 := hR.1.1.2
  have hχ : ∀ j, j < 10 → χ j < 4 := fun j hj => (hR.1.2.1 j hj).2
  have hl := RR_len hR α (by omega)
  have hok := hP.1
  have hLe : vq_len L 1023 ∧ vq_len P 1023 := ⟨fun i hi => by rw [(hP.2.2.2.2.2 i hi).1]; exact hl.1 i hi, fun i hi => by rw [(hP.2.2.2.2.2 i hi).2]; exact hl.2 i hi⟩
  have n7 := hR.1.2.2.2.2
  obtain ⟨m1, m2, m3⟩ := mRep_RR hR hs (by omega)
  have gg := hR.2.2.2.2.2.2.2.2.1 s hs
  have e24 : tn (μ 24 s) = dl s := by rw [gg.1, tn_nI (by omega)]
  rw [e24] at hd
  rw [m2 hd]
  exact vN_r (Wc := (wJ (uVP vo sw hm nt nw 6 nc) (wJ (uSV cy sw sa) (fam4 (Sv cy sa g h κ ζ L P dl δ))))) (Wr := (wJ (uHM cy hm χ) (wJ (uLO nt nm nd NL) (wJ (Kw cy nw nka nκ nζ) (wJ (La cy nd nca NL) (wJ (pool NL.length (Nc nα nau nkd nna nth nwe nso)) (pool nc (Ac α fk fp fa ft)))))))) (e.trans (by unfold CW; exact vp_pc (fun n9 hn9 h90 => by simp only [wJ, hn9, h90, Nat.add_zero, Nat.zero_add] <;> ac_rfl))) (kX4_repeat_no l D cy sz e0 mi vo sw hm nt nw 6 nc sa g h κ ζ L P dl δ s hs hd) (fun _ _ h => h)

theorem kN_repeat_old (l : Launch) (hfl : l.stackTraces = false) (D : va_G) (cy : Nat → ClassId) (sz e0 mi vo n : Nat) (μ : Nat → Nat → Int32) (w : va_W) (hI : CI cy e0 vo n μ w) (hn : n < 511) (h6 : μ 1 0 = nI 6) {s : Nat} (hs : s < 4) (hd : ¬ tn (μ 24 s) = 0) : Met l yX4_repeat wsX4_repeat ({ frames := 3, cells := 0, slots := 0, locals := 64 }) (vh_P D cy e0 mi [.ref vo, .int (nI s)] sz w) (vg_Qi (S := Unit) D sz w (fun r _ => r = mRepR μ (nI s)) (fun _ => w)) 0 0 (va_A w sz) := by
  have hI0 := hI
  obtain ⟨sw, hm, nt, nw, np, nc, χ, sa, nm, nd, nca, NL, nka, nκ, nζ, nα, nau, nkd, nna, nth, nwe, nso, α, fk, fp, fa, ft, g, h, κ, ζ, L, P, lI, pI, dl, δ, e, hP, hR, h5, hS, h7, hnc⟩ := hI
  have e6 : np = 6 := nI_inj (by have := hR.1.1.2; omega) (by omega) (hR.1.1.1.symm.trans h6)
  subst e6
  have n2 := hR.1.1.2
  have hχ : ∀ j, j < 10 → χ j < 4 := fun j hj => (hR.1.2.1 j hj).2
  have hl := RR_len hR α (by omega)
  have hok := hP.1
  have hLe : vq_len L 1023 ∧ vq_len P 1023 := ⟨fun i hi => by rw [(hP.2.2.2.2.2 i hi).1]; exact hl.1 i hi, fun i hi => by rw [(hP.2.2.2.2.2 i hi).2]; exact hl.2 i hi⟩
  have n7 := hR.1.2.2.2.2
  obtain ⟨m1, m2, m3⟩ := mRep_RR hR hs (by omega)
  have gg := hR.2.2.2.2.2.2.2.2.1 s hs
  have e24 : tn (μ 24 s) = dl s := by rw [gg.1, tn_nI (by omega)]
  rw [e24] at hd
  obtain ⟨a, ha⟩ : ∃ a, (pI s)[dl s - 1]? = some a := ⟨_, List.getElem?_eq_getElem (show dl s - 1 < (pI s).length by have := gg.2.1; omega)⟩
  obtain ⟨y1, y2⟩ := m3 a (by omega) ha
  have y3 : (P s)[dl s - 1]? = some (α a) := by rw [(hP.2.2.2.2.2 s hs).2, List.getElem?_map, ha]; rfl
  rw [y1]
  exact vN_r (Wc := (wJ (uVP vo sw hm nt nw 6 nc) (wJ (uHM cy hm χ) (wJ (uSV cy sw sa) (wJ ([] : va_W) (wJ (pool nc (Ac α fk fp fa ft)) (fam4 (Sv cy sa g h κ ζ L P dl δ)))))))) (Wr := (wJ (uLO nt nm nd NL) (wJ (Kw cy nw nka nκ nζ) (wJ (La cy nd nca NL) (pool NL.length (Nc nα nau nkd nna nth nwe nso)))))) (e.trans (by unfold CW; exact vp_pc (fun n9 hn9 h90 => by simp only [wJ, hn9, h90, Nat.add_zero, Nat.zero_add] <;> ac_rfl))) (kX4_repeat_old l D cy sz e0 mi vo sw hm nt nw 6 nc χ sa α fk fp fa ft g h κ ζ L P dl δ s a ([] : va_W) hs hok y2 (by omega) (by omega) (by have := gg.2.1; have := gg.2.2; omega) y3 (h7 s hs (dl s - 1) a (by omega) ha)) (fun _ _ h => h)
