/-! p20: acts called directly, in the state's words -/

theorem r5_bit {κ μ : Nat → Nat → Int32} {i p q : Nat} (h : r4 κ μ i) (h5 : b5 μ) (hp : p < 10) (hq : q < 10) (x : Bool) : kHas (κ 2 p) q = x ↔ μ 5 (100 * i + 10 * p + q) = bI x := by
  rw [h.2.2.1.1 p q hp hq]
  rcases h5 (100 * i + 10 * p + q) with z | z <;> rw [z] <;> cases x <;> decide

theorem kN_alias (l : Launch) (hfl : l.stackTraces = false) (D : va_G) (cy : Nat → ClassId) (sz e0 mi vo n : Nat) (μ : Nat → Nat → Int32) (w : va_W) (hI : CI cy e0 vo n μ w) (hn : n < 511) (h6 : μ 1 0 = nI 6) {p q : Nat} (hp : p < 6) (hq : q < 6) (c : p ≠ q) : Met l yX4_alias wsX4_alias ({ frames := 12, cells := 10, slots := 11111, locals := 314 }) (vh_P D cy e0 mi [.ref vo, .int (nI p), .int (nI q)] sz w) (vg_Qv (S := va_W) D sz w (fun u => CI cy e0 vo (n + 1) (mAli μ (nI p) (nI q)) u) (fun u => u)) 10 11111 (va_A w sz) := by
  have hI0 := hI
  obtain ⟨sw, hm, nt, nw, np, nc, χ, sa, nm, nd, nca, NL, nka, nκ, nζ, nα, nau, nkd, nna, nth, nwe, nso, α, fk, fp, fa, ft, g, h, κ, ζ, L, P, lI, pI, dl, δ, e, hP, hR, h5, hS, h7, hnc⟩ := hI
  have e6 : np = 6 := nI_inj (by have := hR.1.1.2; omega) (by omega) (hR.1.1.1.symm.trans h6)
  subst e6
  have n2 := hR.1.1.2
  have hχ : ∀ j, j < 10 → χ j < 4 := fun j hj => (hR.1.2.1 j hj).2
  have hl := RR_len hR α (by omega)
  have hok := hP.1
  have hLe : vq_len L 1023 ∧ vq_len P 1023 := ⟨fun i hi => by rw [(hP.2.2.2.2.2 i hi).1]; exact hl.1 i hi, fun i hi => by rw [(hP.2.2.2.2.2 i hi).2]; exact hl.2 i hi⟩
  have n7 := hR.1.2.2.2.2
  rw [mAli_RR hR hp hq, if_neg c]
  refine vN_v (Wc := (wJ (uVP vo sw hm nt nw 6 nc) (wJ (uHM cy hm χ) (wJ (uSV cy sw sa) (wJ (pool nc (Ac α fk fp fa ft)) (fam4 (Sv cy sa g h κ ζ L P dl δ))))))) (Wr := (wJ (uLO nt nm nd NL) (wJ (Kw cy nw nka nκ nζ) (wJ (La cy nd nca NL) (pool NL.length (Nc nα nau nkd nna nth nwe nso)))))) (W2 := fun u => u) _ (e.trans (by unfold CW; exact vp_pc (fun n9 hn9 h90 => by simp only [wJ, hn9, h90, Nat.add_zero, Nat.zero_add] <;> ac_rfl))) (fun _ => List.Perm.refl _) (kX4_alias l D cy sz e0 mi vo sw hm nt nw 6 nc χ sa α fk fp fa ft g h κ ζ L P dl δ p q n2 hχ (by omega) hok hP.2.1 hLe.1 hLe.2 (RR_dn hR (hχ p (by omega)) (by omega)) hp hq c) (fun u hr => ?_)
  exact CI_act_n hP (RR_0 hR _) (b5_rows h5 rfl) (bS_rows hS rfl rfl) h7 hnc (show n < 512 by omega) (by omega) hp (fun _ => hq) (fun z => absurd z (by omega)) (fun f hf z => by rw [kHas_0 (by omega)] at z; cases z) (fun z => absurd z (by omega)) (fun z => by rcases z.1 with z | z <;> cases z) hr (by unfold CW; exact vp_pc (fun n9 hn9 h90 => by simp only [wJ, hn9, h90, Nat.add_zero, Nat.zero_add] <;> ac_rfl))

theorem kN_block_0 (l : Launch) (hfl : l.stackTraces = false) (D : va_G) (cy : Nat → ClassId) (sz e0 mi vo n : Nat) (μ : Nat → Nat → Int32) (w : va_W) (hI : CI cy e0 vo n μ w) (hn : n < 511) (h6 : μ 1 0 = nI 6) {p q : Nat} (hp : p < 6) (hq : q < 6) (c : p ≠ q) (d0 : ¬ μ 5 (100 * tn (μ 2 p) + 10 * p + q) = bI false) : Met l yX4_block wsX4_block ({ frames := 12, cells := 10, slots := 11111, locals := 314 }) (vh_P D cy e0 mi [.ref vo, .int (nI p), .int (nI q), .int 0] sz w) (vg_Qv (S := va_W) D sz w (fun u => CI cy e0 vo (n + 1) (mBlo μ (nI p) (nI q) false) u) (fun u => u)) 10 11111 (va_A w sz) := by
  have hI0 := hI
  obtain ⟨sw, hm, nt, nw, np, nc, χ, sa, nm, nd, nca, NL, nka, nκ, nζ, nα, nau, nkd, nna, nth, nwe, nso, α, fk, fp, fa, ft, g, h, κ, ζ, L, P, lI, pI, dl, δ, e, hP, hR, h5, hS, h7, hnc⟩ := hI
  have e6 : np = 6 := nI_inj (by have := hR.1.1.2; omega) (by omega) (hR.1.1.1.symm.trans h6)
  subst e6
  have n2 := hR.1.1.2
  have hχ : ∀ j, j < 10 → χ j < 4 := fun j hj => (hR.1.2.1 j hj).2
  have hl := RR_len hR α (by omega)
  have hok := hP.1
  have hLe : vq_len L 1023 ∧ vq_len P 1023 := ⟨fun i hi => by rw [(hP.2.2.2.2.2 i hi).1]; exact hl.1 i hi, fun i hi => by rw [(hP.2.2.2.2.2 i hi).2]; exact hl.2 i hi⟩
  have n7 := hR.1.2.2.2.2
  have d : ¬ kHas (κ (χ p) 2 p) q = false := fun z => d0 (by
    rw [(hom_q0 hR.1 (show p < 10 by omega)).1]
    exact (r5_bit (hR.2.2.2.2.2.2.1 _ (hχ p (by omega))).1 h5 (by omega) (by omega) _).mp z)
  rw [mBlo_RR hR false hp hq h5, if_neg c, if_neg d, if_neg (by decide)]
  refine vN_v (Wc := (wJ (uVP vo sw hm nt nw 6 nc) (wJ (uHM cy hm χ) (wJ (uSV cy sw sa) (wJ (pool nc (Ac α fk fp fa ft)) (fam4 (Sv cy sa g h κ ζ L P dl δ))))))) (Wr := (wJ (uLO nt nm nd NL) (wJ (Kw cy nw nka nκ nζ) (wJ (La cy nd nca NL) (pool NL.length (Nc nα nau nkd nna nth nwe nso)))))) (W2 := fun u => u) _ (e.trans (by unfold CW; exact vp_pc (fun n9 hn9 h90 => by simp only [wJ, hn9, h90, Nat.add_zero, Nat.zero_add] <;> ac_rfl))) (fun _ => List.Perm.refl _) (kX4_block_0 l D cy sz e0 mi vo sw hm nt nw 6 nc χ sa α fk fp fa ft g h κ ζ L P dl δ p q n2 hχ (by omega) hok hP.2.1 hLe.1 hLe.2 (RR_dn hR (hχ p (by omega)) (by omega)) hp hq c (by cases z : kHas (κ (χ p) 2 p) q; exact absurd z d; rfl)) (fun u hr => ?_)
  exact CI_act_n hP (RR_0 hR _) (b5_rows h5 rfl) (bS_rows hS rfl rfl) h7 hnc (show n < 512 by omega) (by omega) hp (fun _ => hq) (fun z => absurd z (by omega)) (fun f hf z => by rw [kHas_0 (by omega)] at z; cases z) (fun z => absurd z (by omega)) (fun z => by rcases z.1 with z | z <;> cases z) hr (by unfold CW; exact vp_pc (fun n9 hn9 h90 => by simp only [wJ, hn9, h90, Nat.add_zero, Nat.zero_add] <;> ac_rfl))

theorem kN_block_1 (l : Launch) (hfl : l.stackTraces = false) (D : va_G) (cy : Nat → ClassId) (sz e0 mi vo n : Nat) (μ : Nat → Nat → Int32) (w : va_W) (hI : CI cy e0 vo n μ w) (hn : n < 511) (h6 : μ 1 0 = nI 6) {p q : Nat} (hp : p < 6) (hq : q < 6) (c : p ≠ q) (d0 : ¬ μ 5 (100 * tn (μ 2 p) + 10 * p + q) = bI true) : Met l yX4_block wsX4_block ({ frames := 12, cells := 10, slots := 11111, locals := 314 }) (vh_P D cy e0 mi [.ref vo, .int (nI p), .int (nI q), .int 1] sz w) (vg_Qv (S := va_W) D sz w (fun u => CI cy e0 vo (n + 1) (mBlo μ (nI p) (nI q) true) u) (fun u => u)) 10 11111 (va_A w sz) := by
  have hI0 := hI
  obtain ⟨sw, hm, nt, nw, np, nc, χ, sa, nm, nd, nca, NL, nka, nκ, nζ, nα, nau, nkd, nna, nth, nwe, nso, α, fk, fp, fa, ft, g, h, κ, ζ, L, P, lI, pI, dl, δ, e, hP, hR, h5, hS, h7, hnc⟩ := hI
  have e6 : np = 6 := nI_inj (by have := hR.1.1.2; omega) (by omega) (hR.1.1.1.symm.trans h6)
  subst e6
  have n2 := hR.1.1.2
  have hχ : ∀ j, j < 10 → χ j < 4 := fun j hj => (hR.1.2.1 j hj).2
  have hl := RR_len hR α (by omega)
  have hok := hP.1
  have hLe : vq_len L 1023 ∧ vq_len P 1023 := ⟨fun i hi => by rw [(hP.2.2.2.2.2 i hi).1]; exact hl.1 i hi, fun i hi => by rw [(hP.2.2.2.2.2 i hi).2]; exact hl.2 i hi⟩
  have n7 := hR.1.2.2.2.2
  have d : ¬ kHas (κ (χ p) 2 p) q = true := fun z => d0 (by
    rw [(hom_q0 hR.1 (show p < 10 by omega)).1]
    exact (r5_bit (hR.2.2.2.2.2.2.1 _ (hχ p (by omega))).1 h5 (by omega) (by omega) _).mp z)
  rw [mBlo_RR hR true hp hq h5, if_neg c, if_neg d, if_pos rfl]
  refine vN_v (Wc := (wJ (uVP vo sw hm nt nw 6 nc) (wJ (uHM cy hm χ) (wJ (uSV cy sw sa) (wJ (pool nc (Ac α fk fp fa ft)) (fam4 (Sv cy sa g h κ ζ L P dl δ))))))) (Wr := (wJ (uLO nt nm nd NL) (wJ (Kw cy nw nka nκ nζ) (wJ (La cy nd nca NL) (pool NL.length (Nc nα nau nkd nna nth nwe nso)))))) (W2 := fun u => u) _ (e.trans (by unfold CW; exact vp_pc (fun n9 hn9 h90 => by simp only [wJ, hn9, h90, Nat.add_zero, Nat.zero_add] <;> ac_rfl))) (fun _ => List.Perm.refl _) (kX4_block_1 l D cy sz e0 mi vo sw hm nt nw 6 nc χ sa α fk fp fa ft g h κ ζ L P dl δ p q n2 hχ (by omega) hok hP.2.1 hLe.1 hLe.2 (RR_dn hR (hχ p (by omega)) (by omega)) hp hq c (by cases z : kHas (κ (χ p) 2 p) q; rfl; exact absurd z d)) (fun u hr => ?_)
  exact CI_act_n hP (RR_0 hR _) (b5_rows h5 rfl) (bS_rows hS rfl rfl) h7 hnc (show n < 512 by omega) (by omega) hp (fun _ => hq) (fun z => absurd z (by omega)) (fun f hf z => by rw [kHas_0 (by omega)] at z; cases z) (fun z => absurd z (by omega)) (fun z => by rcases z.1 with z | z <;> cases z) hr (by unfold CW; exact vp_pc (fun n9 hn9 h90 => by simp only [wJ, hn9, h90, Nat.add_zero, Nat.zero_add] <;> ac_rfl))

theorem kN_person (l : Launch) (hfl : l.stackTraces = false) (D : va_G) (cy : Nat → ClassId) (sz e0 mi vo n : Nat) (μ : Nat → Nat → Int32) (w : va_W) (hI : CI cy e0 vo n μ w) (hn : n < 511) {k s : Nat} (h1 : μ 1 0 = nI k) (hk : k < 10) (hs : s < 4) : Met l yX4_person wsX4_person ({ frames := 1, cells := 0, slots := 0, locals := 20 }) (vh_P D cy e0 mi [.ref vo, .int (nI s)] sz w) (vg_Qi (S := va_W) D sz w (fun r u => r = nI k ∧ CI cy e0 vo (n + 1) (mPer μ (nI s)) u) (fun u => u)) 0 0 (va_A w sz) := by
  have hI0 := hI
  obtain ⟨sw, hm, nt, nw, np, nc, χ, sa, nm, nd, nca, NL, nka, nκ, nζ, nα, nau, nkd, nna, nth, nwe, nso, α, fk, fp, fa, ft, g, h, κ, ζ, L, P, lI, pI, dl, δ, e, hP, hR, h5, hS, h7, hnc⟩ := hI
  have e6 : np = k := nI_inj (by have := hR.1.1.2; omega) (by omega) (hR.1.1.1.symm.trans h1)
  subst e6
  have n2 := hR.1.1.2
  have hχ : ∀ j, j < 10 → χ j < 4 := fun j hj => (hR.1.2.1 j hj).2
  have hl := RR_len hR α (by omega)
  have hok := hP.1
  have hLe : vq_len L 1023 ∧ vq_len P 1023 := ⟨fun i hi => by rw [(hP.2.2.2.2.2 i hi).1]; exact hl.1 i hi, fun i hi => by rw [(hP.2.2.2.2.2 i hi).2]; exact hl.2 i hi⟩
  have n7 := hR.1.2.2.2.2
  obtain ⟨m1, m2⟩ := mPer_RR hR hs
  rw [m1, if_neg (show ¬ np = 10 by omega)]
  refine vN_i (Wc := (wJ (uVP vo sw hm nt nw np nc) (uHM cy hm χ))) (Wr := (wJ (uSV cy sw sa) (wJ (uLO nt nm nd NL) (wJ (Kw cy nw nka nκ nζ) (wJ (La cy nd nca NL) (wJ (pool NL.length (Nc nα nau nkd nna nth nwe nso)) (wJ (pool nc (Ac α fk fp fa ft)) (fam4 (Sv cy sa g h κ ζ L P dl δ))))))))) (W2 := fun u => u) _ (e.trans (by unfold CW; exact vp_pc (fun n9 hn9 h90 => by simp only [wJ, hn9, h90, Nat.add_zero, Nat.zero_add] <;> ac_rfl))) (fun _ => List.Perm.refl _) (kX4_person l D cy sz e0 mi vo sw hm nt nw np nc χ s hs (by omega)) (fun r u hr => ⟨hr, ?_⟩)
  obtain ⟨r0, r1, r2, r3, r4, r5, r6, r7⟩ := RR_per (RR_0 hR (fun _ => 0)) hs (by omega)
  exact ⟨sw, hm, nt, nw, np + 1, nc, va_up χ np s, sa, nm, nd, nca, NL, nka, nκ, nζ, nα, nau, nkd, nna, nth, nwe, nso, α, fk, fp, fa, ft, g, h, κ, ζ, L, P, lI, pI, dl, δ, (by unfold CW; exact vp_pc (fun n9 hn9 h90 => by simp only [wJ, hn9, h90, Nat.add_zero, Nat.zero_add] <;> ac_rfl)), hP, ⟨r0, r1, r2, r3, r4, r5, r6, q6_mono r7 (by omega)⟩, b5_rows h5 rfl, bS_rows hS rfl rfl, h7, by omega⟩

theorem kN_post_0 (l : Launch) (hfl : l.stackTraces = false) (D : va_G) (cy : Nat → ClassId) (sz e0 mi vo n : Nat) (μ : Nat → Nat → Int32) (w : va_W) (hI : CI cy e0 vo n μ w) (hn : n < 511) (h6 : μ 1 0 = nI 6) {nn p : Nat} {k b : Int32} (h11 : μ 11 0 = nI nn ∧ nn ≤ 50) (hp : p < 6) (h49 : nn < 50) (hg : pG 6 k b) : Met l yX4_post wsX4_post ({ frames := 12, cells := 12, slots := 12351, locals := 314 }) (vh_P D cy e0 mi [.ref vo, .int (nI p), .int k, .int b, .int (-1)] sz w) (vg_Qi (S := va_W) D sz w (fun r u => r = nI nn ∧ CI cy e0 vo (n + 1) (mPos μ (nI p) k b (-1)) u) (fun u => u)) 12 12351 (va_A w sz) := by
  have hI0 := hI
  obtain ⟨sw, hm, nt, nw, np, nc, χ, sa, nm, nd, nca, NL, nka, nκ, nζ, nα, nau, nkd, nna, nth, nwe, nso, α, fk, fp, fa, ft, g, h, κ, ζ, L, P, lI, pI, dl, δ, e, hP, hR, h5, hS, h7, hnc⟩ := hI
  have e6 : np = 6 := nI_inj (by have := hR.1.1.2; omega) (by omega) (hR.1.1.1.symm.trans h6)
  subst e6
  have n2 := hR.1.1.2
  have hχ : ∀ j, j < 10 → χ j < 4 := fun j hj => (hR.1.2.1 j hj).2
  have hl := RR_len hR α (by omega)
  have hok := hP.1
  have hLe : vq_len L 1023 ∧ vq_len P 1023 := ⟨fun i hi => by rw [(hP.2.2.2.2.2 i hi).1]; exact hl.1 i hi, fun i hi => by rw [(hP.2.2.2.2.2 i hi).2]; exact hl.2 i hi⟩
  have n7 := hR.1.2.2.2.2
  have en9 := NL_nn hR h11
  have hp10 : p < 10 := by omega
  have en : tn (μ 11 0) = NL.length := by rw [hR.1.2.2.2.1, tn_nI (by omega)]
  have gp : pG 6 k b := hg
  obtain ⟨g1, g2, g3, g4⟩ := hg
  have h50 : NL.length < 50 := by omega
  rw [← en9]
  classical
  have hT : mPosT μ (nI p) k b (-1) = 0 := by rw [mPosT_0 hR hp k b, if_neg (fun z => z gp), if_neg (by omega)]
  rw [mPos, hT, if_pos rfl]
  have hnq : ¬ qC χ (va_up nkd NL.length k) (va_up nth NL.length (-1)) NL.length (χ p) := fun ⟨_, t, ht, he, _⟩ => by
    rw [va_up_self] at he
    have h9 := congrArg Int32.toInt he
    rw [nI_toInt (by omega), show (-1 : Int32).toInt = -1 from by decide] at h9
    omega
  rw [tn_nI (by omega), en]
  have hwe := (mTo_RR hR hp k b).1
  have hpl : vq_len P 1022 := fun j hj => by rw [(hP.2.2.2.2.2 j hj).2, List.length_map]; have := (hR.2.2.2.2.2.2.2.2.1 j hj).2.2; omega
  have h4 : lo4 ((cTo0 χ (κ (χ p)) 6 p k b) &&& (kBit (χ p) ^^^ (-1))) := lo4_and (cTo0_lo4 hχ _ n2 p k b) _
  refine vN_i (Wc := (wJ (uVP vo sw hm nt nw 6 nc) (wJ (uHM cy hm χ) (wJ (uSV cy sw sa) (wJ (uLO nt nm nd NL) (wJ (La cy nd nca NL) (wJ (pool NL.length (Nc nα nau nkd nna nth nwe nso)) (wJ (pool nc (Ac α fk fp fa ft)) (fam4 (Sv cy sa g h κ ζ L P dl δ)))))))))) (Wr := (Kw cy nw nka nκ nζ)) (W2 := fun u => u) _ (e.trans (by unfold CW; exact vp_pc (fun n9 hn9 h90 => by simp only [wJ, hn9, h90, Nat.add_zero, Nat.zero_add] <;> ac_rfl))) (fun _ => List.Perm.refl _) (kX4_post_0 l D cy sz e0 mi vo sw hm nt nw 6 nc χ sa nm nd nca NL nα nau nkd nna nth nwe nso α fk fp fa ft g h κ ζ L P dl δ p k b ((cTo0 χ (κ (χ p)) 6 p k b) &&& (kBit (χ p) ^^^ (-1))) 0 (fun q => (sPk P q (((cTo0 χ (κ (χ p)) 6 p k b) &&& (kBit (χ p) ^^^ (-1))) &&& (kBit (χ p) ^^^ (-1))) 4)) hp n2 hχ h50 hP.2.2.1 hP.2.2.2.1 (fun j hj => by have := (hR.2.2.2.1 j hj).2.1; omega) hP.2.2.2.2.1 (by omega) hok hP.2.1 hLe.1 hLe.2 (RR_dn hR (hχ p hp10) (by omega)) g1 g2 g3 g4 (fun qa qn u hu => vSO_n8 _ _ _ _ _ _ _ _ _ _ _ _ _ _ _ _ _ _ _ _ _ _ _ _ _ _ _ _ _ _ _ _ _ _ _ _ _ _ _ 0 hu List.getElem?_concat_length (hχ p hp10) hχ (Or.inl rfl) (fun z => z.2.1 rfl))) (fun r u hr => ⟨hr.1, ?_⟩)
  have hle : (NL ++ [u.2.2.1]).length = NL.length + 1 := by rw [List.length_append]; rfl
  exact CI_pos_n (sw := sw) (hm := hm) (nt := nt) (nw := nw) (sa := sa) (nm := nm) (nka := nka) (nκ := nκ) (nζ := nζ) hP hR h5 hS h7 hnc (show n < 512 by omega) hp h50 (Or.inl ⟨rfl, rfl⟩) hwe h4 hr.2.2 hnq hr.2.1 (by unfold CW; rw [hle]; exact vp_pc (fun n9 hn9 h90 => by simp only [wJ, hn9, h90, Nat.add_zero, Nat.zero_add] <;> ac_rfl))

theorem kN_post_r (l : Launch) (hfl : l.stackTraces = false) (D : va_G) (cy : Nat → ClassId) (sz e0 mi vo n : Nat) (μ : Nat → Nat → Int32) (w : va_W) (hI : CI cy e0 vo n μ w) (hn : n < 511) (h6 : μ 1 0 = nI 6) {nn p i : Nat} {k b : Int32} (h11 : μ 11 0 = nI nn ∧ nn ≤ 50) (hp : p < 6) (h49 : nn < 50) (hg : pG 6 k b) (hi0 : i < nn) (hse0 : mSeen μ p i = true) : Met l yX4_post wsX4_post ({ frames := 12, cells := 12, slots := 12351, locals := 314 }) (vh_P D cy e0 mi [.ref vo, .int (nI p), .int k, .int b, .int (nI i)] sz w) (vg_Qi (S := va_W) D sz w (fun r u => r = nI nn ∧ CI cy e0 vo (n + 1) (mPos μ (nI p) k b (nI i)) u) (fun u => u)) 12 12351 (va_A w sz) := by
  have hI0 := hI
  obtain ⟨sw, hm, nt, nw, np, nc, χ, sa, nm, nd, nca, NL, nka, nκ, nζ, nα, nau, nkd, nna, nth, nwe, nso, α, fk, fp, fa, ft, g, h, κ, ζ, L, P, lI, pI, dl, δ, e, hP, hR, h5, hS, h7, hnc⟩ := hI
  have e6 : np = 6 := nI_inj (by have := hR.1.1.2; omega) (by omega) (hR.1.1.1.symm.trans h6)
  subst e6
  have n2 := hR.1.1.2
  have hχ : ∀ j, j < 10 → χ j < 4 := fun j hj => (hR.1.2.1 j hj).2
  have hl := RR_len hR α (by omega)
  have hok := hP.1
  have hLe : vq_len L 1023 ∧ vq_len P 1023 := ⟨fun i hi => by rw [(hP.2.2.2.2.2 i hi).1]; exact hl.1 i hi, fun i hi => by rw [(hP.2.2.2.2.2 i hi).2]; exact hl.2 i hi⟩
  have n7 := hR.1.2.2.2.2
  have en9 := NL_nn hR h11
  have hp10 : p < 10 := by omega
  have en : tn (μ 11 0) = NL.length := by rw [hR.1.2.2.2.1, tn_nI (by omega)]
  have gp : pG 6 k b := hg
  obtain ⟨g1, g2, g3, g4⟩ := hg
  have h50 : NL.length < 50 := by omega
  rw [← en9]
  have hi : i < NL.length := by omega
  have hse : kSee (κ (χ p)) (ζ (χ p)) p i (nau i) (nkd i) (nna i) = true := by rw [← mSeen_RR hR hp hi]; exact hse0
  classical
  have hT : mPosT μ (nI p) k b (nI i) = 0 := by rw [mPosT_r hR hp hi k b, if_neg (fun z => z gp), if_neg (fun z => z.elim (fun y => by omega) (fun y => by rw [hse] at y; cases y))]
  rw [mPos, hT, if_pos rfl]
  have hau := (hR.2.2.2.1 i hi).2.1
  by_cases q : k = 0 ∧ χ (nau i) = χ p
  · obtain ⟨q1, q2⟩ := q
    rw [tn_nI (by omega), en]
    have hwe := (mTo_RR hR hp k b).2 i hi
    have hpl : vq_len P 1022 := fun j hj => by rw [(hP.2.2.2.2.2 j hj).2, List.length_map]; have := (hR.2.2.2.2.2.2.2.2.1 j hj).2.2; omega
    have h4 : lo4 (((cTo0 χ (κ (χ p)) 6 p k b) ||| kBit (χ (nau i))) &&& (kBit (χ p) ^^^ (-1))) := lo4_and (lo4_or (cTo0_lo4 hχ _ n2 p k b) (lo4_bit (hχ _ (by omega)))) _
    refine vN_i (Wc := (wJ (uVP vo sw hm nt nw 6 nc) (wJ (uHM cy hm χ) (wJ (uSV cy sw sa) (wJ (uLO nt nm nd NL) (wJ (La cy nd nca NL) (wJ (pool NL.length (Nc nα nau nkd nna nth nwe nso)) (wJ (pool nc (Ac α fk fp fa ft)) (fam4 (Sv cy sa g h κ ζ L P dl δ)))))))))) (Wr := (Kw cy nw nka nκ nζ)) (W2 := fun u => u) _ (e.trans (by unfold CW; exact vp_pc (fun n9 hn9 h90 => by simp only [wJ, hn9, h90, Nat.add_zero, Nat.zero_add] <;> ac_rfl))) (fun _ => List.Perm.refl _) (kX4_post_r l D cy sz e0 mi vo sw hm nt nw 6 nc χ sa nm nd nca NL nα nau nkd nna nth nwe nso α fk fp fa ft g h κ ζ L P dl δ p k b i (rWe χ (χ p) p (((cTo0 χ (κ (χ p)) 6 p k b) ||| kBit (χ (nau i))) &&& (kBit (χ p) ^^^ (-1))) (rTo2 χ (κ (χ p)) (nau i) (χ p) p 6 (((cTo0 χ (κ (χ p)) 6 p k b) ||| kBit (χ (nau i))) &&& (kBit (χ p) ^^^ (-1))))) (rSo χ (χ p) p 0 (rTo2 χ (κ (χ p)) (nau i) (χ p) p 6 (((cTo0 χ (κ (χ p)) 6 p k b) ||| kBit (χ (nau i))) &&& (kBit (χ p) ^^^ (-1))))) (fun q => (sPk (sPk P q ((((cTo0 χ (κ (χ p)) 6 p k b) ||| kBit (χ (nau i))) &&& (kBit (χ p) ^^^ (-1))) &&& (kBit (χ p) ^^^ (-1))) 4) q (rTo2 χ (κ (χ p)) (nau i) (χ p) p 6 (((cTo0 χ (κ (χ p)) 6 p k b) ||| kBit (χ (nau i))) &&& (kBit (χ p) ^^^ (-1)))) 4)) hp n2 hχ h50 hP.2.2.1 hP.2.2.2.1 (fun j hj => by have := (hR.2.2.2.1 j hj).2.1; omega) hP.2.2.2.2.1 (by omega) hok hP.2.1 hLe.1 hLe.2 (RR_dn hR (hχ p hp10) (by omega)) g1 g2 g3 g4 hi hse (fun qa qn u hu => vSO_P (vSO_y8 _ _ _ _ _ _ _ _ _ _ _ _ _ _ _ _ _ _ _ _ _ _ _ _ _ _ _ _ _ _ _ _ _ _ _ _ _ _ (nau i) n2 hp10 (by omega) hχ (vq_el_new hP.2.1) (sPk_len hpl 4) hu List.getElem?_concat_length (hχ p hp10) q1 q2) (by rw [va_up_self, kLearn_hi _ (by omega)]) (by rw [va_up_self, kLearn_hi _ (by omega)]))) (fun r u hr => ⟨hr.1, ?_⟩)
    have hle : (NL ++ [u.2.2.1]).length = NL.length + 1 := by rw [List.length_append]; rfl
    exact CI_pos_y (sw := sw) (hm := hm) (nt := nt) (nw := nw) (sa := sa) (nm := nm) (nka := nka) (nκ := nκ) (nζ := nζ) hP hR h5 hS h7 hnc (show n < 512 by omega) hp h50 (Or.inr ⟨i, hi, rfl, rfl⟩) hwe h4 hr.2.2 q1 (by omega) rfl q2 hLe.1 hpl hr.2.1 (by unfold CW; rw [hle]; exact vp_pc (fun n9 hn9 h90 => by simp only [wJ, hn9, h90, Nat.add_zero, Nat.zero_add] <;> ac_rfl))
  · have hnq : ¬ qC χ (va_up nkd NL.length k) (va_up nth NL.length (nI (nau i))) NL.length (χ p) := fun ⟨z1, t, ht, he, z2⟩ => by
      rw [va_up_self] at he
      rw [va_up_self] at z1
      have h9 := congrArg tn he
      rw [tn_nI (by omega), tn_nI (by omega)] at h9
      exact q ⟨z1, by rw [h9]; exact z2⟩
    rw [tn_nI (by omega), en]
    have hwe := (mTo_RR hR hp k b).2 i hi
    have hpl : vq_len P 1022 := fun j hj => by rw [(hP.2.2.2.2.2 j hj).2, List.length_map]; have := (hR.2.2.2.2.2.2.2.2.1 j hj).2.2; omega
    have h4 : lo4 (((cTo0 χ (κ (χ p)) 6 p k b) ||| kBit (χ (nau i))) &&& (kBit (χ p) ^^^ (-1))) := lo4_and (lo4_or (cTo0_lo4 hχ _ n2 p k b) (lo4_bit (hχ _ (by omega)))) _
    refine vN_i (Wc := (wJ (uVP vo sw hm nt nw 6 nc) (wJ (uHM cy hm χ) (wJ (uSV cy sw sa) (wJ (uLO nt nm nd NL) (wJ (La cy nd nca NL) (wJ (pool NL.length (Nc nα nau nkd nna nth nwe nso)) (wJ (pool nc (Ac α fk fp fa ft)) (fam4 (Sv cy sa g h κ ζ L P dl δ)))))))))) (Wr := (Kw cy nw nka nκ nζ)) (W2 := fun u => u) _ (e.trans (by unfold CW; exact vp_pc (fun n9 hn9 h90 => by simp only [wJ, hn9, h90, Nat.add_zero, Nat.zero_add] <;> ac_rfl))) (fun _ => List.Perm.refl _) (kX4_post_r l D cy sz e0 mi vo sw hm nt nw 6 nc χ sa nm nd nca NL nα nau nkd nna nth nwe nso α fk fp fa ft g h κ ζ L P dl δ p k b i (((cTo0 χ (κ (χ p)) 6 p k b) ||| kBit (χ (nau i))) &&& (kBit (χ p) ^^^ (-1))) 0 (fun q => (sPk P q ((((cTo0 χ (κ (χ p)) 6 p k b) ||| kBit (χ (nau i))) &&& (kBit (χ p) ^^^ (-1))) &&& (kBit (χ p) ^^^ (-1))) 4)) hp n2 hχ h50 hP.2.2.1 hP.2.2.2.1 (fun j hj => by have := (hR.2.2.2.1 j hj).2.1; omega) hP.2.2.2.2.1 (by omega) hok hP.2.1 hLe.1 hLe.2 (RR_dn hR (hχ p hp10) (by omega)) g1 g2 g3 g4 hi hse (fun qa qn u hu => vSO_n8 _ _ _ _ _ _ _ _ _ _ _ _ _ _ _ _ _ _ _ _ _ _ _ _ _ _ _ _ _ _ _ _ _ _ _ _ _ _ _ (nau i) hu List.getElem?_concat_length (hχ p hp10) hχ (Or.inr ⟨rfl, by omega⟩) (fun z => q ⟨z.1, z.2.2⟩))) (fun r u hr => ⟨hr.1, ?_⟩)
    have hle : (NL ++ [u.2.2.1]).length = NL.length + 1 := by rw [List.length_append]; rfl
    exact CI_pos_n (sw := sw) (hm := hm) (nt := nt) (nw := nw) (sa := sa) (nm := nm) (nka := nka) (nκ := nκ) (nζ := nζ) hP hR h5 hS h7 hnc (show n < 512 by omega) hp h50 (Or.inr ⟨i, hi, rfl, rfl⟩) hwe h4 hr.2.2 hnq hr.2.1 (by unfold CW; rw [hle]; exact vp_pc (fun n9 hn9 h90 => by simp only [wJ, hn9, h90, Nat.add_zero, Nat.zero_add] <;> ac_rfl))

theorem kN_deliver_no (l : Launch) (hfl : l.stackTraces = false) (D : va_G) (cy : Nat → ClassId) (sz e0 mi vo n : Nat) (μ : Nat → Nat → Int32) (w : va_W) (hI : CI cy e0 vo n μ w) (hn : n < 511) (h6 : μ 1 0 = nI 6) {s : Nat} (hs : s < 4) (hd : tn (μ 24 s) = tn (μ 25 s)) : Met l yX4_deliver wsX4_deliver ({ frames := 2, cells := 0, slots := 0, locals := 40 }) (vh_P D cy e0 mi [.ref vo, .int (nI s)] sz w) (vg_Qi (S := Unit) D sz w (fun r _ => r = -1) (fun _ => w)) 0 0 (va_A w sz) := by
  have hI0 := hI
  obtain ⟨sw, hm, nt, nw, np, nc, χ, sa, nm, nd, nca, NL, nka, nκ, nζ, nα, nau, nkd, nna, nth, nwe, nso, α, fk, fp, fa, ft, g, h, κ, ζ, L, P, lI, pI, dl, δ, e, hP, hR, h5, hS, h7, hnc⟩ := hI
  have e6 : np = 6 := nI_inj (by have := hR.1.1.2; omega) (by omega) (hR.1.1.1.symm.trans h6)
  subst e6
  have n2 := hR.1.1.2
  have hχ : ∀ j, j < 10 → χ j < 4 := fun j hj => (hR.1.2.1 j hj).2
  have hl := RR_len hR α (by omega)
  have hok := hP.1
  have hLe : vq_len L 1023 ∧ vq_len P 1023 := ⟨fun i hi => by rw [(hP.2.2.2.2.2 i hi).1]; exact hl.1 i hi, fun i hi => by rw [(hP.2.2.2.2.2 i hi).2]; exact hl.2 i hi⟩
  have n7 := hR.1.2.2.2.2
  obtain ⟨m1, m2, m3⟩ := mDlv_RR hR hs (by omega)
  have gg := hR.2.2.2.2.2.2.2.2.1 s hs
  have g0 := (hR.2.2.2.2.2.2.2.1 s hs).1
  have eP : (P s).length = (pI s).length := by rw [(hP.2.2.2.2.2 s hs).2, List.length_map]
  have e24 : tn (μ 24 s) = dl s := by rw [gg.1, tn_nI (by omega)]
  have e25 : tn (μ 25 s) = (pI s).length := by rw [g0, tn_nI (by omega)]
  rw [e24, e25] at hd
  exact vN_r (Wc := (wJ (uVP vo sw hm nt nw 6 nc) (wJ (uSV cy sw sa) (fam4 (Sv cy sa g h κ ζ L P dl δ))))) (Wr := (wJ (uHM cy hm χ) (wJ (uLO nt nm nd NL) (wJ (Kw cy nw nka nκ nζ) (wJ (La cy nd nca NL) (wJ (pool NL.length (Nc nα nau nkd nna nth nwe nso)) (pool nc (Ac α fk fp fa ft)))))))) (e.trans (by unfold CW; exact vp_pc (fun n9 hn9 h90 => by simp only [wJ, hn9, h90, Nat.add_zero, Nat.zero_add] <;> ac_rfl))) (kX4_deliver_no l D cy sz e0 mi vo sw hm nt nw 6 nc sa g h κ ζ L P dl δ s hs (by rw [eP]; exact hd) (by rw [eP]; have := gg.2.2; omega)) (fun _ _ h => h)

set_option maxHeartbeats 4000000 in
theorem kN_deliver_new (l : Launch) (hfl : l.stackTraces = false) (D : va_G) (cy : Nat → ClassId) (sz e0 mi vo n : Nat) (μ : Nat → Nat → Int32) (w : va_W) (hI : CI cy e0 vo n μ w) (hn : n < 511) (h6 : μ 1 0 = nI 6) {s : Nat} (hs : s < 4) (hd : ¬ tn (μ 24 s) = tn (μ 25 s)) (hz : μ 22 (600 * s + mDlvA μ s) = 0) : Met l yX4_deliver wsX4_deliver ({ frames := 11, cells := 5, slots := 6170, locals := 292 }) (vh_P D cy e0 mi [.ref vo, .int (nI s)] sz w) (vg_Qi (S := va_W) D sz w (fun r u => r = mDlvR μ (nI s) ∧ CI cy e0 vo (n + 1) (mDlv μ (nI s)) u) (fun u => u)) 5 6170 (va_A w sz) := by
  have hI0 := hI
  obtain ⟨sw, hm, nt, nw, np, nc, χ, sa, nm, nd, nca, NL, nka, nκ, nζ, nα, nau, nkd, nna, nth, nwe, nso, α, fk, fp, fa, ft, g, h, κ, ζ, L, P, lI, pI, dl, δ, e, hP, hR, h5, hS, h7, hnc⟩ := hI
  have e6 : np = 6 := nI_inj (by have := hR.1.1.2; omega) (by omega) (hR.1.1.1.symm.trans h6)
  subst e6
  have n2 := hR.1.1.2
  have hχ : ∀ j, j < 10 → χ j < 4 := fun j hj => (hR.1.2.1 j hj).2
  have hl := RR_len hR α (by omega)
  have hok := hP.1
  have hLe : vq_len L 1023 ∧ vq_len P 1023 := ⟨fun i hi => by rw [(hP.2.2.2.2.2 i hi).1]; exact hl.1 i hi, fun i hi => by rw [(hP.2.2.2.2.2 i hi).2]; exact hl.2 i hi⟩
  have n7 := hR.1.2.2.2.2
  obtain ⟨m1, m2, m3⟩ := mDlv_RR hR hs (by omega)
  have gg := hR.2.2.2.2.2.2.2.2.1 s hs
  have g0 := (hR.2.2.2.2.2.2.2.1 s hs).1
  have eP : (P s).length = (pI s).length := by rw [(hP.2.2.2.2.2 s hs).2, List.length_map]
  have e24 : tn (μ 24 s) = dl s := by rw [gg.1, tn_nI (by omega)]
  have e25 : tn (μ 25 s) = (pI s).length := by rw [g0, tn_nI (by omega)]
  rw [e24, e25] at hd
  have hlt : dl s < (pI s).length := by have := gg.2.1; omega
  obtain ⟨a, ha⟩ : ∃ a, (pI s)[dl s]? = some a := ⟨_, List.getElem?_eq_getElem hlt⟩
  obtain ⟨y1, y2, y3, y4⟩ := m3 a ha
  have y5 : (P s)[dl s]? = some (α a) := by rw [(hP.2.2.2.2.2 s hs).2, List.getElem?_map, ha]; rfl
  have hR1 := RR_dl (RR_0 hR (fun _ => 0)) hs hlt
  obtain ⟨-, b1, b2, b3, b4, -⟩ := hR.2.2.1 a y2
  rw [y1, y4] at hz
  rw [m1, m2, if_neg hd, if_neg hd, y1, y3, y4]
  have d : δ s a = 0 := hz
  rw [if_pos d]
  by_cases k8 : fk a = 8
  · have hj := b4 (by omega)
    by_cases q : qC χ nkd nth (fa a) s
    · obtain ⟨d1, t, ht, he, hx⟩ := q
      refine vN_i (Wc := (wJ (uVP vo sw hm nt nw 6 nc) (wJ (uHM cy hm χ) (wJ (uSV cy sw sa) (wJ (wJ (uLO nt nm nd NL) (wJ (Ow (nα (fa a)) (nau (fa a)) (nkd (fa a)) (nna (fa a)) (nth (fa a)) (nwe (fa a)) (nso (fa a))) (La cy nd nca NL))) (wJ (pool nc (Ac α fk fp fa ft)) (fam4 (Sv cy sa g h κ ζ L P dl δ)))))))) (Wr := (wJ (Kw cy nw nka nκ nζ) (poolo NL.length (Nc nα nau nkd nna nth nwe nso) (fa a)))) (W2 := fun u => u) _ (e.trans (vp_swap (u := (pool NL.length (Nc nα nau nkd nna nth nwe nso))) (u2 := wJ (Ow (nα (fa a)) (nau (fa a)) (nkd (fa a)) (nna (fa a)) (nth (fa a)) (nwe (fa a)) (nso (fa a))) (poolo NL.length (Nc nα nau nkd nna nth nwe nso) (fa a))) (r := (wJ (uVP vo sw hm nt nw 6 nc) (wJ (uHM cy hm χ) (wJ (uSV cy sw sa) (wJ (uLO nt nm nd NL) (wJ (Kw cy nw nka nκ nζ) (wJ (La cy nd nca NL) (wJ (pool nc (Ac α fk fp fa ft)) (fam4 (Sv cy sa g h κ ζ L P dl δ)))))))))) (by unfold CW; exact vp_pc (fun n9 hn9 h90 => by simp only [wJ, hn9, h90, Nat.add_zero, Nat.zero_add] <;> ac_rfl)) (np_foc nα nau nkd nna nth nwe nso hj) (vp_pc (fun n9 hn9 h90 => by simp only [wJ, hn9, h90, Nat.add_zero, Nat.zero_add] <;> ac_rfl)))) (fun _ => List.Perm.refl _) (kX4_deliver l D cy sz e0 mi vo sw hm nt nw 6 nc χ sa α fk fp fa ft g h κ ζ L P dl δ s a (wJ (uLO nt nm nd NL) (wJ (Ow (nα (fa a)) (nau (fa a)) (nkd (fa a)) (nna (fa a)) (nth (fa a)) (nwe (fa a)) (nso (fa a))) (La cy nd nca NL))) (sPk P (α a) (rTo2 χ (κ s) t s (nau (fa a)) 6 (nwe (fa a))) 4) (wJ (uLO nt nm nd NL) (wJ (Ow (nα (fa a)) (nau (fa a)) (nkd (fa a)) (nna (fa a)) (nth (fa a)) (rWe χ s (nau (fa a)) (nwe (fa a)) (rTo2 χ (κ s) t s (nau (fa a)) 6 (nwe (fa a)))) (rSo χ s (nau (fa a)) (nso (fa a)) (rTo2 χ (κ s) t s (nau (fa a)) 6 (nwe (fa a))))) (La cy nd nca NL))) hs hok y2 (by omega) (by rw [eP]; exact hlt) y5 b1 (by omega) (fun q => by have := b3 q; omega) hP.2.1 hLe.1 d (by rw [k8, he]; exact vSO_P (vSO_y8 _ _ _ _ _ _ _ _ _ _ _ _ _ _ _ _ _ _ _ _ _ _ _ _ _ _ _ _ nm nd nca NL (nα (fa a)) (nau (fa a)) (nkd (fa a)) (nna (fa a)) (nwe (fa a)) (nso (fa a)) t n2 (by have := (hR.2.2.2.1 _ hj).2.1; omega) ht hχ (by have z := vq_elp (ap_foc α fk fp fa ft y2) (vq_el_do (s := s) hP.2.1 y2); rw [k8] at z; exact z) hLe.2 hP.2.2.1 (hP.2.2.2.1 _ hj) hs d1 hx) (by rw [va_up_self, kLearn_hi _ (by omega)]) (by rw [va_up_self, kLearn_hi _ (by omega)]))) (fun r u hr => ⟨?_, ?_⟩)
      · exact hr.1
      · exact CI_dlv hP hR h5 hS hnc (P2 := sPk P (α a) (rTo2 χ (κ s) t s (nau (fa a)) 6 (nwe (fa a))) 4) (pI2 := sPk pI a (rTo2 χ (κ s) t s (nau (fa a)) 6 (nwe (fa a))) 4) (nwe2 := va_up nwe (fa a) (rWe χ s (nau (fa a)) (nwe (fa a)) (rTo2 χ (κ s) t s (nau (fa a)) 6 (nwe (fa a))))) (nso2 := va_up nso (fa a) (rSo χ s (nau (fa a)) (nso (fa a)) (rTo2 χ (κ s) t s (nau (fa a)) 6 (nwe (fa a))))) y2 hs hlt hr.2 (fun i _ y hy => sPk_sub P (α a) (rTo2 χ (κ s) t s (nau (fa a)) 6 (nwe (fa a))) i y hy) (fun i hi => sPk_mp (fun i hi => (hP.2.2.2.2.2 i hi).2) a (rTo2 χ (κ s) t s (nau (fa a)) 6 (nwe (fa a))) i hi) (q7_dl (q7_snd (rTo2 χ (κ s) t s (nau (fa a)) 6 (nwe (fa a))) (q7_dlt h7) (fun i hi => (hR.2.2.2.2.2.2.2.2.1 i hi).2.1)) (by rw [(sPk_ln pI a (rTo2 χ (κ s) t s (nau (fa a)) 6 (nwe (fa a))) s 4).2.2 _ hlt]; exact ha) (by rw [va_up_self, upd_same]; decide)) (RR_mn (RR_do_8 hR1 hs y2 d k8 d1 ht he hx (by omega)) (by omega)) (vp_swap (u := wJ (Ow (nα (fa a)) (nau (fa a)) (nkd (fa a)) (nna (fa a)) (nth (fa a)) (rWe χ s (nau (fa a)) (nwe (fa a)) (rTo2 χ (κ s) t s (nau (fa a)) 6 (nwe (fa a)))) (rSo χ s (nau (fa a)) (nso (fa a)) (rTo2 χ (κ s) t s (nau (fa a)) 6 (nwe (fa a))))) (poolo NL.length (Nc nα nau nkd nna nth nwe nso) (fa a))) (r := (wJ (uVP vo sw hm nt nw 6 nc) (wJ (uHM cy hm χ) (wJ (uSV cy sw sa) (wJ (uLO nt nm nd NL) (wJ (Kw cy nw nka nκ nζ) (wJ (La cy nd nca NL) (wJ (pool nc (Ac α fk fp fa ft)) (fam4 (Sv cy sa g u (va_up κ s (kLearn (κ s) (fk a) (fp a) (fa a) (ft a))) (va_up ζ s (zLearn (ζ s) (fk a) (fp a) (fa a))) (va_up L s (L s ++ [α a])) (sPk P (α a) (rTo2 χ (κ s) t s (nau (fa a)) 6 (nwe (fa a))) 4) (va_up dl s (dl s + 1)) (va_up δ s (upd (δ s) a 1)))))))))))) (vp_pc (fun n9 hn9 h90 => by simp only [wJ, hn9, h90, Nat.add_zero, Nat.zero_add] <;> ac_rfl)) (np_unf nα nau nkd nna nth nwe nso _ _ hj) (by unfold CW; exact vp_pc (fun n9 hn9 h90 => by simp only [wJ, hn9, h90, Nat.add_zero, Nat.zero_add] <;> ac_rfl)))
    · obtain ⟨t, ht, htc⟩ := nth_t hR hj
      refine vN_i (Wc := (wJ (uVP vo sw hm nt nw 6 nc) (wJ (uHM cy hm χ) (wJ (uSV cy sw sa) (wJ (wJ (uLO nt nm nd NL) (wJ (Ow (nα (fa a)) (nau (fa a)) (nkd (fa a)) (nna (fa a)) (nth (fa a)) (nwe (fa a)) (nso (fa a))) (La cy nd nca NL))) (wJ (pool nc (Ac α fk fp fa ft)) (fam4 (Sv cy sa g h κ ζ L P dl δ)))))))) (Wr := (wJ (Kw cy nw nka nκ nζ) (poolo NL.length (Nc nα nau nkd nna nth nwe nso) (fa a)))) (W2 := fun u => u) _ (e.trans (vp_swap (u := (pool NL.length (Nc nα nau nkd nna nth nwe nso))) (u2 := wJ (Ow (nα (fa a)) (nau (fa a)) (nkd (fa a)) (nna (fa a)) (nth (fa a)) (nwe (fa a)) (nso (fa a))) (poolo NL.length (Nc nα nau nkd nna nth nwe nso) (fa a))) (r := (wJ (uVP vo sw hm nt nw 6 nc) (wJ (uHM cy hm χ) (wJ (uSV cy sw sa) (wJ (uLO nt nm nd NL) (wJ (Kw cy nw nka nκ nζ) (wJ (La cy nd nca NL) (wJ (pool nc (Ac α fk fp fa ft)) (fam4 (Sv cy sa g h κ ζ L P dl δ)))))))))) (by unfold CW; exact vp_pc (fun n9 hn9 h90 => by simp only [wJ, hn9, h90, Nat.add_zero, Nat.zero_add] <;> ac_rfl)) (np_foc nα nau nkd nna nth nwe nso hj) (vp_pc (fun n9 hn9 h90 => by simp only [wJ, hn9, h90, Nat.add_zero, Nat.zero_add] <;> ac_rfl)))) (fun _ => List.Perm.refl _) (kX4_deliver l D cy sz e0 mi vo sw hm nt nw 6 nc χ sa α fk fp fa ft g h κ ζ L P dl δ s a (wJ (uLO nt nm nd NL) (wJ (Ow (nα (fa a)) (nau (fa a)) (nkd (fa a)) (nna (fa a)) (nth (fa a)) (nwe (fa a)) (nso (fa a))) (La cy nd nca NL))) P (wJ (uLO nt nm nd NL) (wJ (Ow (nα (fa a)) (nau (fa a)) (nkd (fa a)) (nna (fa a)) (nth (fa a)) (nwe (fa a)) (nso (fa a))) (La cy nd nca NL))) hs hok y2 (by omega) (by rw [eP]; exact hlt) y5 b1 (by omega) (fun q => by have := b3 q; omega) hP.2.1 hLe.1 d (by rw [k8]; exact vSO_n8 _ _ _ _ _ _ _ _ _ _ _ _ _ _ _ _ _ _ _ _ _ _ _ _ _ _ _ _ nm nd nca NL (nα (fa a)) (nau (fa a)) (nkd (fa a)) (nna (fa a)) (nth (fa a)) (nwe (fa a)) (nso (fa a)) t hP.2.2.1 (hP.2.2.2.1 _ hj) hs hχ ht (htc _ q))) (fun r u hr => ⟨?_, ?_⟩)
      · exact hr.1
      · exact CI_dlv hP hR h5 hS hnc (P2 := P) (pI2 := pI) (nwe2 := nwe) (nso2 := nso) y2 hs hlt hr.2 (fun i _ y hy => Or.inl hy) (fun i hi => (hP.2.2.2.2.2 i hi).2) (q7_dl (q7_dlt h7) ha (by rw [va_up_self, upd_same]; decide)) (RR_mn (RR_do_n hR1 hs y2 d (fun z => q z.2)) (by omega)) (vp_swap (u := wJ (Ow (nα (fa a)) (nau (fa a)) (nkd (fa a)) (nna (fa a)) (nth (fa a)) (nwe (fa a)) (nso (fa a))) (poolo NL.length (Nc nα nau nkd nna nth nwe nso) (fa a))) (r := (wJ (uVP vo sw hm nt nw 6 nc) (wJ (uHM cy hm χ) (wJ (uSV cy sw sa) (wJ (uLO nt nm nd NL) (wJ (Kw cy nw nka nκ nζ) (wJ (La cy nd nca NL) (wJ (pool nc (Ac α fk fp fa ft)) (fam4 (Sv cy sa g u (va_up κ s (kLearn (κ s) (fk a) (fp a) (fa a) (ft a))) (va_up ζ s (zLearn (ζ s) (fk a) (fp a) (fa a))) (va_up L s (L s ++ [α a])) P (va_up dl s (dl s + 1)) (va_up δ s (upd (δ s) a 1)))))))))))) (vp_pc (fun n9 hn9 h90 => by simp only [wJ, hn9, h90, Nat.add_zero, Nat.zero_add] <;> ac_rfl)) ((np_foc nα nau nkd nna nth nwe nso hj).symm) (by unfold CW; exact vp_pc (fun n9 hn9 h90 => by simp only [wJ, hn9, h90, Nat.add_zero, Nat.zero_add] <;> ac_rfl)))
  · by_cases k9 : fk a = 9
    · have hj := b4 (by omega)
      by_cases q : qC χ nkd nth (fa a) s
      · obtain ⟨d1, t, ht, he, hx⟩ := q
        refine vN_i (Wc := (wJ (uVP vo sw hm nt nw 6 nc) (wJ (uHM cy hm χ) (wJ (uSV cy sw sa) (wJ (wJ (uLO nt nm nd NL) (wJ (Ow (nα (fa a)) (nau (fa a)) (nkd (fa a)) (nna (fa a)) (nth (fa a)) (nwe (fa a)) (nso (fa a))) (La cy nd nca NL))) (wJ (pool nc (Ac α fk fp fa ft)) (fam4 (Sv cy sa g h κ ζ L P dl δ)))))))) (Wr := (wJ (Kw cy nw nka nκ nζ) (poolo NL.length (Nc nα nau nkd nna nth nwe nso) (fa a)))) (W2 := fun u => u) _ (e.trans (vp_swap (u := (pool NL.length (Nc nα nau nkd nna nth nwe nso))) (u2 := wJ (Ow (nα (fa a)) (nau (fa a)) (nkd (fa a)) (nna (fa a)) (nth (fa a)) (nwe (fa a)) (nso (fa a))) (poolo NL.length (Nc nα nau nkd nna nth nwe nso) (fa a))) (r := (wJ (uVP vo sw hm nt nw 6 nc) (wJ (uHM cy hm χ) (wJ (uSV cy sw sa) (wJ (uLO nt nm nd NL) (wJ (Kw cy nw nka nκ nζ) (wJ (La cy nd nca NL) (wJ (pool nc (Ac α fk fp fa ft)) (fam4 (Sv cy sa g h κ ζ L P dl δ)))))))))) (by unfold CW; exact vp_pc (fun n9 hn9 h90 => by simp only [wJ, hn9, h90, Nat.add_zero, Nat.zero_add] <;> ac_rfl)) (np_foc nα nau nkd nna nth nwe nso hj) (vp_pc (fun n9 hn9 h90 => by simp only [wJ, hn9, h90, Nat.add_zero, Nat.zero_add] <;> ac_rfl)))) (fun _ => List.Perm.refl _) (kX4_deliver l D cy sz e0 mi vo sw hm nt nw 6 nc χ sa α fk fp fa ft g h κ ζ L P dl δ s a (wJ (uLO nt nm nd NL) (wJ (Ow (nα (fa a)) (nau (fa a)) (nkd (fa a)) (nna (fa a)) (nth (fa a)) (nwe (fa a)) (nso (fa a))) (La cy nd nca NL))) (sPk P (α a) (nso (fa a)) 4) (wJ (uLO nt nm nd NL) (wJ (Ow (nα (fa a)) (nau (fa a)) (nkd (fa a)) (nna (fa a)) (nth (fa a)) (nwe (fa a)) (nso (fa a))) (La cy nd nca NL))) hs hok y2 (by omega) (by rw [eP]; exact hlt) y5 b1 (by omega) (fun q => by have := b3 q; omega) hP.2.1 hLe.1 d (by rw [k9, he]; exact vSO_y9 _ _ _ _ _ _ _ _ _ _ _ _ _ _ _ _ _ _ _ _ _ _ _ _ _ _ _ _ nm nd nca NL (nα (fa a)) (nau (fa a)) (nkd (fa a)) (nna (fa a)) (nwe (fa a)) (nso (fa a)) t n2 (by have := (hR.2.2.2.1 _ hj).2.1; omega) ht hχ (by have z := vq_elp (ap_foc α fk fp fa ft y2) (vq_el_do (s := s) hP.2.1 y2); rw [k9] at z; exact z) hLe.2 hP.2.2.1 (hP.2.2.2.1 _ hj) hs d1 hx)) (fun r u hr => ⟨?_, ?_⟩)
        · exact hr.1
        · exact CI_dlv hP hR h5 hS hnc (P2 := sPk P (α a) (nso (fa a)) 4) (pI2 := sPk pI a (nso (fa a)) 4) (nwe2 := nwe) (nso2 := nso) y2 hs hlt hr.2 (fun i _ y hy => sPk_sub P (α a) (nso (fa a)) i y hy) (fun i hi => sPk_mp (fun i hi => (hP.2.2.2.2.2 i hi).2) a (nso (fa a)) i hi) (q7_dl (q7_snd (nso (fa a)) (q7_dlt h7) (fun i hi => (hR.2.2.2.2.2.2.2.2.1 i hi).2.1)) (by rw [(sPk_ln pI a (nso (fa a)) s 4).2.2 _ hlt]; exact ha) (by rw [va_up_self, upd_same]; decide)) (RR_mn (RR_do_9 hR1 hs y2 d k9 d1 ht he hx (by omega)) (by omega)) (vp_swap (u := wJ (Ow (nα (fa a)) (nau (fa a)) (nkd (fa a)) (nna (fa a)) (nth (fa a)) (nwe (fa a)) (nso (fa a))) (poolo NL.length (Nc nα nau nkd nna nth nwe nso) (fa a))) (r := (wJ (uVP vo sw hm nt nw 6 nc) (wJ (uHM cy hm χ) (wJ (uSV cy sw sa) (wJ (uLO nt nm nd NL) (wJ (Kw cy nw nka nκ nζ) (wJ (La cy nd nca NL) (wJ (pool nc (Ac α fk fp fa ft)) (fam4 (Sv cy sa g u (va_up κ s (kLearn (κ s) (fk a) (fp a) (fa a) (ft a))) (va_up ζ s (zLearn (ζ s) (fk a) (fp a) (fa a))) (va_up L s (L s ++ [α a])) (sPk P (α a) (nso (fa a)) 4) (va_up dl s (dl s + 1)) (va_up δ s (upd (δ s) a 1)))))))))))) (vp_pc (fun n9 hn9 h90 => by simp only [wJ, hn9, h90, Nat.add_zero, Nat.zero_add] <;> ac_rfl)) ((np_foc nα nau nkd nna nth nwe nso hj).symm) (by unfold CW; exact vp_pc (fun n9 hn9 h90 => by simp only [wJ, hn9, h90, Nat.add_zero, Nat.zero_add] <;> ac_rfl)))
      · obtain ⟨t, ht, htc⟩ := nth_t hR hj
        refine vN_i (Wc := (wJ (uVP vo sw hm nt nw 6 nc) (wJ (uHM cy hm χ) (wJ (uSV cy sw sa) (wJ (wJ (uLO nt nm nd NL) (wJ (Ow (nα (fa a)) (nau (fa a)) (nkd (fa a)) (nna (fa a)) (nth (fa a)) (nwe (fa a)) (nso (fa a))) (La cy nd nca NL))) (wJ (pool nc (Ac α fk fp fa ft)) (fam4 (Sv cy sa g h κ ζ L P dl δ)))))))) (Wr := (wJ (Kw cy nw nka nκ nζ) (poolo NL.length (Nc nα nau nkd nna nth nwe nso) (fa a)))) (W2 := fun u => u) _ (e.trans (vp_swap (u := (pool NL.length (Nc nα nau nkd nna nth nwe nso))) (u2 := wJ (Ow (nα (fa a)) (nau (fa a)) (nkd (fa a)) (nna (fa a)) (nth (fa a)) (nwe (fa a)) (nso (fa a))) (poolo NL.length (Nc nα nau nkd nna nth nwe nso) (fa a))) (r := (wJ (uVP vo sw hm nt nw 6 nc) (wJ (uHM cy hm χ) (wJ (uSV cy sw sa) (wJ (uLO nt nm nd NL) (wJ (Kw cy nw nka nκ nζ) (wJ (La cy nd nca NL) (wJ (pool nc (Ac α fk fp fa ft)) (fam4 (Sv cy sa g h κ ζ L P dl δ)))))))))) (by unfold CW; exact vp_pc (fun n9 hn9 h90 => by simp only [wJ, hn9, h90, Nat.add_zero, Nat.zero_add] <;> ac_rfl)) (np_foc nα nau nkd nna nth nwe nso hj) (vp_pc (fun n9 hn9 h90 => by simp only [wJ, hn9, h90, Nat.add_zero, Nat.zero_add] <;> ac_rfl)))) (fun _ => List.Perm.refl _) (kX4_deliver l D cy sz e0 mi vo sw hm nt nw 6 nc χ sa α fk fp fa ft g h κ ζ L P dl δ s a (wJ (uLO nt nm nd NL) (wJ (Ow (nα (fa a)) (nau (fa a)) (nkd (fa a)) (nna (fa a)) (nth (fa a)) (nwe (fa a)) (nso (fa a))) (La cy nd nca NL))) P (wJ (uLO nt nm nd NL) (wJ (Ow (nα (fa a)) (nau (fa a)) (nkd (fa a)) (nna (fa a)) (nth (fa a)) (nwe (fa a)) (nso (fa a))) (La cy nd nca NL))) hs hok y2 (by omega) (by rw [eP]; exact hlt) y5 b1 (by omega) (fun q => by have := b3 q; omega) hP.2.1 hLe.1 d (by rw [k9]; exact vSO_n9 _ _ _ _ _ _ _ _ _ _ _ _ _ _ _ _ _ _ _ _ _ _ _ _ _ _ _ _ nm nd nca NL (nα (fa a)) (nau (fa a)) (nkd (fa a)) (nna (fa a)) (nth (fa a)) (nwe (fa a)) (nso (fa a)) t hP.2.2.1 (hP.2.2.2.1 _ hj) hs hχ ht (htc _ q))) (fun r u hr => ⟨?_, ?_⟩)
        · exact hr.1
        · exact CI_dlv hP hR h5 hS hnc (P2 := P) (pI2 := pI) (nwe2 := nwe) (nso2 := nso) y2 hs hlt hr.2 (fun i _ y hy => Or.inl hy) (fun i hi => (hP.2.2.2.2.2 i hi).2) (q7_dl (q7_dlt h7) ha (by rw [va_up_self, upd_same]; decide)) (RR_mn (RR_do_n hR1 hs y2 d (fun z => q z.2)) (by omega)) (vp_swap (u := wJ (Ow (nα (fa a)) (nau (fa a)) (nkd (fa a)) (nna (fa a)) (nth (fa a)) (nwe (fa a)) (nso (fa a))) (poolo NL.length (Nc nα nau nkd nna nth nwe nso) (fa a))) (r := (wJ (uVP vo sw hm nt nw 6 nc) (wJ (uHM cy hm χ) (wJ (uSV cy sw sa) (wJ (uLO nt nm nd NL) (wJ (Kw cy nw nka nκ nζ) (wJ (La cy nd nca NL) (wJ (pool nc (Ac α fk fp fa ft)) (fam4 (Sv cy sa g u (va_up κ s (kLearn (κ s) (fk a) (fp a) (fa a) (ft a))) (va_up ζ s (zLearn (ζ s) (fk a) (fp a) (fa a))) (va_up L s (L s ++ [α a])) P (va_up dl s (dl s + 1)) (va_up δ s (upd (δ s) a 1)))))))))))) (vp_pc (fun n9 hn9 h90 => by simp only [wJ, hn9, h90, Nat.add_zero, Nat.zero_add] <;> ac_rfl)) ((np_foc nα nau nkd nna nth nwe nso hj).symm) (by unfold CW; exact vp_pc (fun n9 hn9 h90 => by simp only [wJ, hn9, h90, Nat.add_zero, Nat.zero_add] <;> ac_rfl)))
    · have hpe : w.Perm (wJ (wJ (uVP vo sw hm nt nw 6 nc) (wJ (uHM cy hm χ) (wJ (uSV cy sw sa) (wJ ([] : va_W) (wJ (pool nc (Ac α fk fp fa ft)) (fam4 (Sv cy sa g h κ ζ L P dl δ))))))) (wJ (uLO nt nm nd NL) (wJ (Kw cy nw nka nκ nζ) (wJ (La cy nd nca NL) (pool NL.length (Nc nα nau nkd nna nth nwe nso)))))) := e.trans (by unfold CW; exact vp_pc (fun n9 hn9 h90 => by simp only [wJ, hn9, h90, Nat.add_zero, Nat.zero_add] <;> ac_rfl))
      refine vN_i (Wc := (wJ (uVP vo sw hm nt nw 6 nc) (wJ (uHM cy hm χ) (wJ (uSV cy sw sa) (wJ ([] : va_W) (wJ (pool nc (Ac α fk fp fa ft)) (fam4 (Sv cy sa g h κ ζ L P dl δ)))))))) (Wr := (wJ (uLO nt nm nd NL) (wJ (Kw cy nw nka nκ nζ) (wJ (La cy nd nca NL) (pool NL.length (Nc nα nau nkd nna nth nwe nso)))))) (W2 := fun u => u) _ hpe (fun _ => List.Perm.refl _) (kX4_deliver l D cy sz e0 mi vo sw hm nt nw 6 nc χ sa α fk fp fa ft g h κ ζ L P dl δ s a ([] : va_W) P ([] : va_W) hs hok y2 (by omega) (by rw [eP]; exact hlt) y5 b1 (by omega) (fun q => by have := b3 q; omega) hP.2.1 hLe.1 d (vSO_n _ _ _ _ _ _ _ _ _ _ _ _ _ _ _ _ _ _ _ _ _ _ _ _ _ _ _ _ _ _ b1 k8 k9)) (fun r u hr => ⟨?_, ?_⟩)
      · exact hr.1
      · exact CI_dlv hP hR h5 hS hnc (P2 := P) (pI2 := pI) (nwe2 := nwe) (nso2 := nso) y2 hs hlt hr.2 (fun i _ y hy => Or.inl hy) (fun i hi => (hP.2.2.2.2.2 i hi).2) (q7_dl (q7_dlt h7) ha (by rw [va_up_self, upd_same]; decide)) (RR_mn (RR_do_n hR1 hs y2 d (fun z => by have := z.1; omega)) (by omega)) (by unfold CW; exact vp_pc (fun n9 hn9 h90 => by simp only [wJ, hn9, h90, Nat.add_zero, Nat.zero_add] <;> ac_rfl))

theorem kN_deliver_old (l : Launch) (hfl : l.stackTraces = false) (D : va_G) (cy : Nat → ClassId) (sz e0 mi vo n : Nat) (μ : Nat → Nat → Int32) (w : va_W) (hI : CI cy e0 vo n μ w) (hn : n < 511) (h6 : μ 1 0 = nI 6) {s : Nat} (hs : s < 4) (hd : ¬ tn (μ 24 s) = tn (μ 25 s)) (hz : ¬ μ 22 (600 * s + mDlvA μ s) = 0) : Met l yX4_deliver wsX4_deliver ({ frames := 3, cells := 0, slots := 0, locals := 64 }) (vh_P D cy e0 mi [.ref vo, .int (nI s)] sz w) (vg_Qi (S := va_W) D sz w (fun r u => r = mDlvR μ (nI s) ∧ CI cy e0 vo (n + 1) (mDlv μ (nI s)) u) (fun u => u)) 0 0 (va_A w sz) := by
  have hI0 := hI
  obtain ⟨sw, hm, nt, nw, np, nc, χ, sa, nm, nd, nca, NL, nka, nκ, nζ, nα, nau, nkd, nna, nth, nwe, nso, α, fk, fp, fa, ft, g, h, κ, ζ, L, P, lI, pI, dl, δ, e, hP, hR, h5, hS, h7, hnc⟩ := hI
  have e6 : np = 6 := nI_inj (by have := hR.1.1.2; omega) (by omega) (hR.1.1.1.symm.trans h6)
  subst e6
  have n2 := hR.1.1.2
  have hχ : ∀ j, j < 10 → χ j < 4 := fun j hj => (hR.1.2.1 j hj).2
  have hl := RR_len hR α (by omega)
  have hok := hP.1
  have hLe : vq_len L 1023 ∧ vq_len P 1023 := ⟨fun i hi => by rw [(hP.2.2.2.2.2 i hi).1]; exact hl.1 i hi, fun i hi => by rw [(hP.2.2.2.2.2 i hi).2]; exact hl.2 i hi⟩
  have n7 := hR.1.2.2.2.2
  obtain ⟨m1, m2, m3⟩ := mDlv_RR hR hs (by omega)
  have gg := hR.2.2.2.2.2.2.2.2.1 s hs
  have g0 := (hR.2.2.2.2.2.2.2.1 s hs).1
  have eP : (P s).length = (pI s).length := by rw [(hP.2.2.2.2.2 s hs).2, List.length_map]
  have e24 : tn (μ 24 s) = dl s := by rw [gg.1, tn_nI (by omega)]
  have e25 : tn (μ 25 s) = (pI s).length := by rw [g0, tn_nI (by omega)]
  rw [e24, e25] at hd
  have hlt : dl s < (pI s).length := by have := gg.2.1; omega
  obtain ⟨a, ha⟩ : ∃ a, (pI s)[dl s]? = some a := ⟨_, List.getElem?_eq_getElem hlt⟩
  obtain ⟨y1, y2, y3, y4⟩ := m3 a ha
  have y5 : (P s)[dl s]? = some (α a) := by rw [(hP.2.2.2.2.2 s hs).2, List.getElem?_map, ha]; rfl
  have hR1 := RR_dl (RR_0 hR (fun _ => 0)) hs hlt
  obtain ⟨-, b1, b2, b3, b4, -⟩ := hR.2.2.1 a y2
  rw [y1, y4] at hz
  rw [m1, m2, if_neg hd, if_neg hd, y1, y3, y4]
  have d : ¬ δ s a = 0 := hz
  rw [if_neg d]
  refine vN_i (Wc := (wJ (uVP vo sw hm nt nw 6 nc) (wJ (uHM cy hm χ) (wJ (uSV cy sw sa) (wJ ([] : va_W) (wJ (pool nc (Ac α fk fp fa ft)) (fam4 (Sv cy sa g h κ ζ L P dl δ)))))))) (Wr := (wJ (uLO nt nm nd NL) (wJ (Kw cy nw nka nκ nζ) (wJ (La cy nd nca NL) (pool NL.length (Nc nα nau nkd nna nth nwe nso)))))) (W2 := fun u => u) _ (e.trans (by unfold CW; exact vp_pc (fun n9 hn9 h90 => by simp only [wJ, hn9, h90, Nat.add_zero, Nat.zero_add] <;> ac_rfl))) (fun _ => List.Perm.refl _) (kX4_deliver_old l D cy sz e0 mi vo sw hm nt nw 6 nc χ sa α fk fp fa ft g h κ ζ L P dl δ s a ([] : va_W) hs hok y2 (by omega) (by rw [eP]; exact hlt) y5 d) (fun r u hr => ⟨hr, ?_⟩)
  exact ⟨sw, hm, nt, nw, 6, nc, χ, sa, nm, nd, nca, NL, nka, nκ, nζ, nα, nau, nkd, nna, nth, nwe, nso, α, fk, fp, fa, ft, g, h, κ, ζ, L, P, lI, pI, _, δ, (by unfold CW; exact vp_pc (fun n9 hn9 h90 => by simp only [wJ, hn9, h90, Nat.add_zero, Nat.zero_add] <;> ac_rfl)), hP, RR_mn hR1 (by omega), b5_rows h5 rfl, bS_rows hS rfl rfl, q7_dl h7 ha d, by omega⟩
