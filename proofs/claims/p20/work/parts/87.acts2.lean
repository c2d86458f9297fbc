/-! p20: the law's small methods, in the state's words -/

theorem kN_isFollow (l : Launch) (hfl : l.stackTraces = false) (D : va_G) (cy : Nat → ClassId) (sz e0 mi vo n : Nat) (μ : Nat → Nat → Int32) (w : va_W) (hI : CI cy e0 vo n μ w) (hn : n < 511) (h6 : μ 1 0 = nI 6) {p q : Nat} (hp : p < 6) (hq : q < 6) (c : p ≠ q) : Met l yL_isFollow wsL_isFollow ({ frames := 13, cells := 12, slots := 12351, locals := 345 }) (vh_P D cy e0 mi [.ref vo, .int (nI p), .int (nI q)] sz w) (vg_Qi (S := va_W) D sz w (fun r u => r = bI (decide (mFlw μ (nI p) (nI q) 0 0 = 0)) ∧ CI cy e0 vo (n + 1) (mFlw μ (nI p) (nI q)) u) (fun u => u)) 12 12351 (va_A w sz) := by
  have hI0 := hI
  obtain ⟨sw, hm, nt, nw, np, nc, χ, sa, nm, nd, nca, NL, nka, nκ, nζ, nα, nau, nkd, nna, nth, nwe, nso, α, fk, fp, fa, ft, g, h, κ, ζ, L, P, lI, pI, dl, δ, e, hP, hR, h5, hS, h7, hnc⟩ := hI
  have e6 : np = 6 := nI_inj (by have := hR.1.1.2; omega) (by omega) (hR.1.1.1.symm.trans h6)
  subst e6
  have n2 := hR.1.1.2
  have hχ : ∀ j, j < 10 → χ j < 4 := fun j hj => (hR.1.2.1 j hj).2
  have hl := RR_len hR α (by omega)
  have hok := hP.1
  have hLe : vq_len L 1023 ∧ vq_len P 1023 := ⟨fun i hi => by rw [(hP.2.2.2.2.2 i hi).1]; exact hl.1 i hi, fun i hi => by rw [(hP.2.2.2.2.2 i hi).2]; exact hl.2 i hi⟩
  have n7 := hR.1.2.2.2.2
  obtain ⟨k0, hk0⟩ := List.mem_iff_getElem?.mp (e.mem_iff.mpr (show ((vo, .inr (5, [.ref sw, .ref hm, .ref nt, .ref nw, .int (nI 6), .int (nI nc)])) : Nat × va_E) ∈ CW cy vo sw hm nt nw 6 nc χ sa nm nd nca NL nka nκ nζ nα nau nkd nna nth nwe nso α fk fp fa ft g h κ ζ L P dl δ from List.mem_cons_self))
  rw [mFlw_RR hR hp hq, if_neg c]
  by_cases d : kHas (κ (χ p) 0 p) q = true ∨ kHas (κ (χ p) 1 p) q = true ∨ kBet (κ (χ p)) p q = true
  · rw [if_pos d]
    exact vm_Qi (kL_isFollow_S l D cy sz e0 mi vo (nI p) (nI q) w (wJ (uVP vo sw hm nt nw 6 nc) (wJ (uHM cy hm χ) (wJ (uSV cy sw sa) (fam4 (Sv cy sa g h κ ζ L P dl δ))))) (wJ (uLO nt nm nd NL) (wJ (Kw cy nw nka nκ nζ) (wJ (La cy nd nca NL) (wJ (pool NL.length (Nc nα nau nkd nna nth nwe nso)) (pool nc (Ac α fk fp fa ft)))))) k0 _ hk0 (e.trans (by unfold CW; exact vp_pc (fun n9 hn9 h90 => by simp only [wJ, hn9, h90, Nat.add_zero, Nat.zero_add] <;> ac_rfl))) ⟨rfl, rfl, by decide, by decide, by decide, by decide⟩ (fun sz => kX4_follow_S l hfl D cy sz e0 mi vo sw hm nt nw 6 nc χ sa g h κ ζ L P dl δ p q hp hq n2 hχ c d)) (fun r u hr => ⟨hr.trans (show (0 : Int32) = bI (decide ((3 : Int32) = 0)) from by decide), CI_thr hI0 _⟩)
  · rw [if_neg d]
    have d1 : kHas (κ (χ p) 0 p) q = false := Bool.eq_false_iff.mpr (fun z => d (Or.inl z))
    have d2 : kHas (κ (χ p) 1 p) q = false := Bool.eq_false_iff.mpr (fun z => d (Or.inr (Or.inl z)))
    have d3 : kBet (κ (χ p)) p q = false := Bool.eq_false_iff.mpr (fun z => d (Or.inr (Or.inr z)))
    refine vm_Qi (kL_isFollow_ok l D cy sz e0 mi vo (nI p) (nI q) w (wJ (uVP vo sw hm nt nw 6 nc) (wJ (uHM cy hm χ) (wJ (uSV cy sw sa) (wJ (pool nc (Ac α fk fp fa ft)) (fam4 (Sv cy sa g h κ ζ L P dl δ)))))) (wJ (uLO nt nm nd NL) (wJ (Kw cy nw nka nκ nζ) (wJ (La cy nd nca NL) (pool NL.length (Nc nα nau nkd nna nth nwe nso))))) k0 _ hk0 (e.trans (by unfold CW; exact vp_pc (fun n9 hn9 h90 => by simp only [wJ, hn9, h90, Nat.add_zero, Nat.zero_add] <;> ac_rfl))) _ _ ⟨rfl, rfl, by decide, by decide, by decide, by decide⟩ (fun sz => kX4_follow l D cy sz e0 mi vo sw hm nt nw 6 nc χ sa α fk fp fa ft g h κ ζ L P dl δ p q n2 hχ (by omega) hok hP.2.1 hLe.1 hLe.2 (RR_dn hR (hχ p (by omega)) (by omega)) hp hq c d1 d2 d3)) (fun r u hr => ⟨?_, ?_⟩)
    · rw [mAct_0]; exact hr.1.trans (show (1 : Int32) = bI (decide ((0 : Int32) = 0)) from by decide)
    · exact CI_act_n hP (RR_0 hR _) (b5_rows h5 rfl) (bS_rows hS rfl rfl) h7 hnc (show n < 512 by omega) (by omega) hp (fun _ => hq) (fun z => absurd z (by omega)) (fun f hf z => by rw [kHas_0 (by omega)] at z; cases z) (fun z => absurd z (by omega)) (fun z => by rcases z.1 with z | z <;> cases z) hr.2 (by unfold CW; exact vp_pc (fun n9 hn9 h90 => by simp only [wJ, hn9, h90, Nat.add_zero, Nat.zero_add] <;> ac_rfl))

theorem kN_isLeave (l : Launch) (hfl : l.stackTraces = false) (D : va_G) (cy : Nat → ClassId) (sz e0 mi vo n : Nat) (μ : Nat → Nat → Int32) (w : va_W) (hI : CI cy e0 vo n μ w) (hn : n < 511) (h6 : μ 1 0 = nI 6) {p q : Nat} (hp : p < 6) (hq : q < 6) : Met l yL_isLeave wsL_isLeave ({ frames := 13, cells := 12, slots := 12351, locals := 345 }) (vh_P D cy e0 mi [.ref vo, .int (nI p), .int (nI q)] sz w) (vg_Qi (S := va_W) D sz w (fun r u => r = bI (decide (mLea μ (nI p) (nI q) 0 0 = 0)) ∧ CI cy e0 vo (n + 1) (mLea μ (nI p) (nI q)) u) (fun u => u)) 12 12351 (va_A w sz) := by
  have hI0 := hI
  obtain ⟨sw, hm, nt, nw, np, nc, χ, sa, nm, nd, nca, NL, nka, nκ, nζ, nα, nau, nkd, nna, nth, nwe, nso, α, fk, fp, fa, ft, g, h, κ, ζ, L, P, lI, pI, dl, δ, e, hP, hR, h5, hS, h7, hnc⟩ := hI
  have e6 : np = 6 := nI_inj (by have := hR.1.1.2; omega) (by omega) (hR.1.1.1.symm.trans h6)
  subst e6
  have n2 := hR.1.1.2
  have hχ : ∀ j, j < 10 → χ j < 4 := fun j hj => (hR.1.2.1 j hj).2
  have hl := RR_len hR α (by omega)
  have hok := hP.1
  have hLe : vq_len L 1023 ∧ vq_len P 1023 := ⟨fun i hi => by rw [(hP.2.2.2.2.2 i hi).1]; exact hl.1 i hi, fun i hi => by rw [(hP.2.2.2.2.2 i hi).2]; exact hl.2 i hi⟩
  have n7 := hR.1.2.2.2.2
  obtain ⟨k0, hk0⟩ := List.mem_iff_getElem?.mp (e.mem_iff.mpr (show ((vo, .inr (5, [.ref sw, .ref hm, .ref nt, .ref nw, .int (nI 6), .int (nI nc)])) : Nat × va_E) ∈ CW cy vo sw hm nt nw 6 nc χ sa nm nd nca NL nka nκ nζ nα nau nkd nna nth nwe nso α fk fp fa ft g h κ ζ L P dl δ from List.mem_cons_self))
  rw [mLea_RR hR hp hq]
  by_cases d : kHas (κ (χ p) 0 p) q = true
  · rw [if_pos (Or.inl d)]
    refine vm_Qi (kL_isLeave_ok l D cy sz e0 mi vo (nI p) (nI q) w (wJ (uVP vo sw hm nt nw 6 nc) (wJ (uHM cy hm χ) (wJ (uSV cy sw sa) (wJ (pool nc (Ac α fk fp fa ft)) (fam4 (Sv cy sa g h κ ζ L P dl δ)))))) (wJ (uLO nt nm nd NL) (wJ (Kw cy nw nka nκ nζ) (wJ (La cy nd nca NL) (pool NL.length (Nc nα nau nkd nna nth nwe nso))))) k0 _ hk0 (e.trans (by unfold CW; exact vp_pc (fun n9 hn9 h90 => by simp only [wJ, hn9, h90, Nat.add_zero, Nat.zero_add] <;> ac_rfl))) _ _ ⟨rfl, rfl, by decide, by decide, by decide, by decide⟩ (fun sz => kX4_leave_a l D cy sz e0 mi vo sw hm nt nw 6 nc χ sa α fk fp fa ft g h κ ζ L P dl δ p q n2 hχ (by omega) hok hP.2.1 hLe.1 hLe.2 (RR_dn hR (hχ p (by omega)) (by omega)) hp hq d)) (fun r u hr => ⟨?_, ?_⟩)
    · rw [mAct_0]; exact hr.1.trans (show (1 : Int32) = bI (decide ((0 : Int32) = 0)) from by decide)
    · exact CI_act_n hP (RR_0 hR _) (b5_rows h5 rfl) (bS_rows hS rfl rfl) h7 hnc (show n < 512 by omega) (by omega) hp (fun _ => hq) (fun z => absurd z (by omega)) (fun f hf z => by rw [kHas_0 (by omega)] at z; cases z) (fun z => absurd z (by omega)) (fun z => by rcases z.1 with z | z <;> cases z) hr.2 (by unfold CW; exact vp_pc (fun n9 hn9 h90 => by simp only [wJ, hn9, h90, Nat.add_zero, Nat.zero_add] <;> ac_rfl))
  · have d1 := Bool.eq_false_iff.mpr d
    by_cases d2 : kHas (κ (χ p) 1 p) q = true
    · rw [if_pos (Or.inr d2)]
      refine vm_Qi (kL_isLeave_ok l D cy sz e0 mi vo (nI p) (nI q) w (wJ (uVP vo sw hm nt nw 6 nc) (wJ (uHM cy hm χ) (wJ (uSV cy sw sa) (wJ (pool nc (Ac α fk fp fa ft)) (fam4 (Sv cy sa g h κ ζ L P dl δ)))))) (wJ (uLO nt nm nd NL) (wJ (Kw cy nw nka nκ nζ) (wJ (La cy nd nca NL) (pool NL.length (Nc nα nau nkd nna nth nwe nso))))) k0 _ hk0 (e.trans (by unfold CW; exact vp_pc (fun n9 hn9 h90 => by simp only [wJ, hn9, h90, Nat.add_zero, Nat.zero_add] <;> ac_rfl))) _ _ ⟨rfl, rfl, by decide, by decide, by decide, by decide⟩ (fun sz => kX4_leave_f l D cy sz e0 mi vo sw hm nt nw 6 nc χ sa α fk fp fa ft g h κ ζ L P dl δ p q n2 hχ (by omega) hok hP.2.1 hLe.1 hLe.2 (RR_dn hR (hχ p (by omega)) (by omega)) hp hq d1 d2)) (fun r u hr => ⟨?_, ?_⟩)
      · rw [mAct_0]; exact hr.1.trans (show (1 : Int32) = bI (decide ((0 : Int32) = 0)) from by decide)
      · exact CI_act_n hP (RR_0 hR _) (b5_rows h5 rfl) (bS_rows hS rfl rfl) h7 hnc (show n < 512 by omega) (by omega) hp (fun _ => hq) (fun z => absurd z (by omega)) (fun f hf z => by rw [kHas_0 (by omega)] at z; cases z) (fun z => absurd z (by omega)) (fun z => by rcases z.1 with z | z <;> cases z) hr.2 (by unfold CW; exact vp_pc (fun n9 hn9 h90 => by simp only [wJ, hn9, h90, Nat.add_zero, Nat.zero_add] <;> ac_rfl))
    · rw [if_neg (fun z => z.elim d d2)]
      exact vm_Qi (kL_isLeave_S l D cy sz e0 mi vo (nI p) (nI q) w (wJ (uVP vo sw hm nt nw 6 nc) (wJ (uHM cy hm χ) (wJ (uSV cy sw sa) (fam4 (Sv cy sa g h κ ζ L P dl δ))))) (wJ (uLO nt nm nd NL) (wJ (Kw cy nw nka nκ nζ) (wJ (La cy nd nca NL) (wJ (pool NL.length (Nc nα nau nkd nna nth nwe nso)) (pool nc (Ac α fk fp fa ft)))))) k0 _ hk0 (e.trans (by unfold CW; exact vp_pc (fun n9 hn9 h90 => by simp only [wJ, hn9, h90, Nat.add_zero, Nat.zero_add] <;> ac_rfl))) ⟨rfl, rfl, by decide, by decide, by decide, by decide⟩ (fun sz => kX4_leave_S l hfl D cy sz e0 mi vo sw hm nt nw 6 nc χ sa g h κ ζ L P dl δ p q hp hq n2 hχ d1 (Bool.eq_false_iff.mpr d2))) (fun r u hr => ⟨hr.trans (show (0 : Int32) = bI (decide ((2 : Int32) = 0)) from by decide), CI_thr hI0 _⟩)

theorem kN_isAnswer (l : Launch) (hfl : l.stackTraces = false) (D : va_G) (cy : Nat → ClassId) (sz e0 mi vo n : Nat) (μ : Nat → Nat → Int32) (w : va_W) (hI : CI cy e0 vo n μ w) (hn : n < 511) (h6 : μ 1 0 = nI 6) {p q : Nat} (x : Bool) (hp : p < 6) (hq : q < 6) : Met l yL_isAnswer wsL_isAnswer ({ frames := 13, cells := 12, slots := 12351, locals := 345 }) (vh_P D cy e0 mi [.ref vo, .int (nI p), .int (nI q), .int (bI x)] sz w) (vg_Qi (S := va_W) D sz w (fun r u => r = bI (decide (mAns μ (nI p) (nI q) x 0 0 = 0)) ∧ CI cy e0 vo (n + 1) (mAns μ (nI p) (nI q) x) u) (fun u => u)) 12 12351 (va_A w sz) := by
  have hI0 := hI
  obtain ⟨sw, hm, nt, nw, np, nc, χ, sa, nm, nd, nca, NL, nka, nκ, nζ, nα, nau, nkd, nna, nth, nwe, nso, α, fk, fp, fa, ft, g, h, κ, ζ, L, P, lI, pI, dl, δ, e, hP, hR, h5, hS, h7, hnc⟩ := hI
  have e6 : np = 6 := nI_inj (by have := hR.1.1.2; omega) (by omega) (hR.1.1.1.symm.trans h6)
  subst e6
  have n2 := hR.1.1.2
  have hχ : ∀ j, j < 10 → χ j < 4 := fun j hj => (hR.1.2.1 j hj).2
  have hl := RR_len hR α (by omega)
  have hok := hP.1
  have hLe : vq_len L 1023 ∧ vq_len P 1023 := ⟨fun i hi => by rw [(hP.2.2.2.2.2 i hi).1]; exact hl.1 i hi, fun i hi => by rw [(hP.2.2.2.2.2 i hi).2]; exact hl.2 i hi⟩
  have n7 := hR.1.2.2.2.2
  obtain ⟨k0, hk0⟩ := List.mem_iff_getElem?.mp (e.mem_iff.mpr (show ((vo, .inr (5, [.ref sw, .ref hm, .ref nt, .ref nw, .int (nI 6), .int (nI nc)])) : Nat × va_E) ∈ CW cy vo sw hm nt nw 6 nc χ sa nm nd nca NL nka nκ nζ nα nau nkd nna nth nwe nso α fk fp fa ft g h κ ζ L P dl δ from List.mem_cons_self))
  rw [mAns_RR hR x hp hq]
  by_cases d : kHas (κ (χ p) 0 q) p = true
  · rw [if_pos d]
    cases x
    · rw [if_neg (by decide)]
      refine vm_Qi (kL_isAnswer_ok l D cy sz e0 mi vo (nI p) (nI q) 0 w (wJ (uVP vo sw hm nt nw 6 nc) (wJ (uHM cy hm χ) (wJ (uSV cy sw sa) (wJ (pool nc (Ac α fk fp fa ft)) (fam4 (Sv cy sa g h κ ζ L P dl δ)))))) (wJ (uLO nt nm nd NL) (wJ (Kw cy nw nka nκ nζ) (wJ (La cy nd nca NL) (pool NL.length (Nc nα nau nkd nna nth nwe nso))))) k0 _ hk0 (e.trans (by unfold CW; exact vp_pc (fun n9 hn9 h90 => by simp only [wJ, hn9, h90, Nat.add_zero, Nat.zero_add] <;> ac_rfl))) _ _ ⟨rfl, rfl, by decide, by decide, by decide, by decide⟩ (fun sz => kX4_answer_0 l D cy sz e0 mi vo sw hm nt nw 6 nc χ sa α fk fp fa ft g h κ ζ L P dl δ p q n2 hχ (by omega) hok hP.2.1 hLe.1 hLe.2 (RR_dn hR (hχ p (by omega)) (by omega)) hp hq d)) (fun r u hr => ⟨?_, ?_⟩)
      · rw [mAct_0]; exact hr.1.trans (show (1 : Int32) = bI (decide ((0 : Int32) = 0)) from by decide)
      · exact CI_act_n hP (RR_0 hR _) (b5_rows h5 rfl) (bS_rows hS rfl rfl) h7 hnc (show n < 512 by omega) (by omega) hp (fun _ => hq) (fun z => absurd z (by omega)) (fun f hf z => by rw [kHas_0 (by omega)] at z; cases z) (fun z => absurd z (by omega)) (fun z => by rcases z.1 with z | z <;> cases z) hr.2 (by unfold CW; exact vp_pc (fun n9 hn9 h90 => by simp only [wJ, hn9, h90, Nat.add_zero, Nat.zero_add] <;> ac_rfl))
    · rw [if_pos rfl]
      refine vm_Qi (kL_isAnswer_ok l D cy sz e0 mi vo (nI p) (nI q) 1 w (wJ (uVP vo sw hm nt nw 6 nc) (wJ (uHM cy hm χ) (wJ (uSV cy sw sa) (wJ (pool nc (Ac α fk fp fa ft)) (fam4 (Sv cy sa g h κ ζ L P dl δ)))))) (wJ (uLO nt nm nd NL) (wJ (Kw cy nw nka nκ nζ) (wJ (La cy nd nca NL) (pool NL.length (Nc nα nau nkd nna nth nwe nso))))) k0 _ hk0 (e.trans (by unfold CW; exact vp_pc (fun n9 hn9 h90 => by simp only [wJ, hn9, h90, Nat.add_zero, Nat.zero_add] <;> ac_rfl))) _ _ ⟨rfl, rfl, by decide, by decide, by decide, by decide⟩ (fun sz => kX4_answer_1 l D cy sz e0 mi vo sw hm nt nw 6 nc χ sa α fk fp fa ft g h κ ζ L P dl δ p q n2 hχ (by omega) hok hP.2.1 hLe.1 hLe.2 (RR_dn hR (hχ p (by omega)) (by omega)) hp hq d)) (fun r u hr => ⟨?_, ?_⟩)
      · rw [mAct_0]; exact hr.1.trans (show (1 : Int32) = bI (decide ((0 : Int32) = 0)) from by decide)
      · exact CI_act_n hP (RR_0 hR _) (b5_rows h5 rfl) (bS_rows hS rfl rfl) h7 hnc (show n < 512 by omega) (by omega) hp (fun _ => hq) (fun z => absurd z (by omega)) (fun f hf z => by rw [kHas_0 (by omega)] at z; cases z) (fun z => absurd z (by omega)) (fun z => by rcases z.1 with z | z <;> cases z) hr.2 (by unfold CW; exact vp_pc (fun n9 hn9 h90 => by simp only [wJ, hn9, h90, Nat.add_zero, Nat.zero_add] <;> ac_rfl))
  · rw [if_neg d]
    exact vm_Qi (kL_isAnswer_S l D cy sz e0 mi vo (nI p) (nI q) (bI x) w (wJ (uVP vo sw hm nt nw 6 nc) (wJ (uHM cy hm χ) (wJ (uSV cy sw sa) (fam4 (Sv cy sa g h κ ζ L P dl δ))))) (wJ (uLO nt nm nd NL) (wJ (Kw cy nw nka nκ nζ) (wJ (La cy nd nca NL) (wJ (pool NL.length (Nc nα nau nkd nna nth nwe nso)) (pool nc (Ac α fk fp fa ft)))))) k0 _ hk0 (e.trans (by unfold CW; exact vp_pc (fun n9 hn9 h90 => by simp only [wJ, hn9, h90, Nat.add_zero, Nat.zero_add] <;> ac_rfl))) ⟨rfl, rfl, by decide, by decide, by decide, by decide⟩ (fun sz => kX4_answer_S l hfl D cy sz e0 mi vo sw hm nt nw 6 nc χ sa g h κ ζ L P dl δ p q (bI x) hp hq n2 hχ (Bool.eq_false_iff.mpr d))) (fun r u hr => ⟨hr.trans (show (0 : Int32) = bI (decide ((2 : Int32) = 0)) from by decide), CI_thr hI0 _⟩)

theorem sT_le (f : Nat → Nat) (h : ∀ j, f j ≤ 1) : ∀ n, sT f n ≤ n
  | 0 => Nat.le_refl _
  | n + 1 => by
    have ih := sT_le f h n
    have := h n
    rw [sT]
    omega
theorem jIbc_pos (x : Int32) (h : ∃ n : Nat, n < 2 ^ 31 ∧ x = nI n) : ¬ x < 0 := by
  obtain ⟨n, hn, e⟩ := h
  rw [e]
  exact nI_pos hn

theorem kN_isMove (l : Launch) (hfl : l.stackTraces = false) (D : va_G) (cy : Nat → ClassId) (sz e0 mi vo n : Nat) (μ : Nat → Nat → Int32) (w : va_W) (hI : CI cy e0 vo n μ w) (hn : n < 511) (h6 : μ 1 0 = nI 6) {p q : Nat} (hp : p < 6) (hq : q < 6) : Met l yL_isMove wsL_isMove ({ frames := 13, cells := 12, slots := 12351, locals := 345 }) (vh_P D cy e0 mi [.ref vo, .int (nI p), .int (nI q)] sz w) (vg_Qi (S := va_W) D sz w (fun r u => r = bI (decide (mMve μ (nI p) (nI q) 0 0 = 0)) ∧ CI cy e0 vo (n + 1) (mMve μ (nI p) (nI q)) u) (fun u => u)) 12 12351 (va_A w sz) := by
  have hI0 := hI
  obtain ⟨sw, hm, nt, nw, np, nc, χ, sa, nm, nd, nca, NL, nka, nκ, nζ, nα, nau, nkd, nna, nth, nwe, nso, α, fk, fp, fa, ft, g, h, κ, ζ, L, P, lI, pI, dl, δ, e, hP, hR, h5, hS, h7, hnc⟩ := hI
  have e6 : np = 6 := nI_inj (by have := hR.1.1.2; omega) (by omega) (hR.1.1.1.symm.trans h6)
  subst e6
  have n2 := hR.1.1.2
  have hχ : ∀ j, j < 10 → χ j < 4 := fun j hj => (hR.1.2.1 j hj).2
  have hl := RR_len hR α (by omega)
  have hok := hP.1
  have hLe : vq_len L 1023 ∧ vq_len P 1023 := ⟨fun i hi => by rw [(hP.2.2.2.2.2 i hi).1]; exact hl.1 i hi, fun i hi => by rw [(hP.2.2.2.2.2 i hi).2]; exact hl.2 i hi⟩
  have n7 := hR.1.2.2.2.2
  obtain ⟨k0, hk0⟩ := List.mem_iff_getElem?.mp (e.mem_iff.mpr (show ((vo, .inr (5, [.ref sw, .ref hm, .ref nt, .ref nw, .int (nI 6), .int (nI nc)])) : Nat × va_E) ∈ CW cy vo sw hm nt nw 6 nc χ sa nm nd nca NL nka nκ nζ nα nau nkd nna nth nwe nso α fk fp fa ft g h κ ζ L P dl δ from List.mem_cons_self))
  obtain ⟨m1, -, -⟩ := mMve_RR hR hp hq
  rw [m1]
  by_cases d : kHas (κ (χ p) 3 q) p = true
  · rw [if_pos d]
    have hs := (hR.2.2.2.2.2.2.1 _ (hχ p (by omega)))
    have hcnt : ∃ n9 : Nat, n9 < 2 ^ 31 ∧ jIbc (kFo (κ (χ p)) p 10) = nI n9 := by
      rw [← mCnt_kFo hs.1 hs.2.2.1 (show p < 10 by omega) (show 6 ≤ 10 by omega), mCnt_sT]
      exact ⟨_, Nat.lt_of_le_of_lt (sT_le _ (fun j => by split <;> omega) 6) (by decide), rfl⟩
    refine vm_Qi (kL_isMove_ok l D cy sz e0 mi vo (nI p) (nI q) w (wJ (uVP vo sw hm nt nw 6 nc) (wJ (uHM cy hm χ) (wJ (uSV cy sw sa) (wJ (pool nc (Ac α fk fp fa ft)) (fam4 (Sv cy sa g h κ ζ L P dl δ)))))) (wJ (uLO nt nm nd NL) (wJ (Kw cy nw nka nκ nζ) (wJ (La cy nd nca NL) (pool NL.length (Nc nα nau nkd nna nth nwe nso))))) k0 _ hk0 (e.trans (by unfold CW; exact vp_pc (fun n9 hn9 h90 => by simp only [wJ, hn9, h90, Nat.add_zero, Nat.zero_add] <;> ac_rfl))) _ _ ⟨rfl, rfl, by decide, by decide, by decide, by decide⟩ (fun r u h => jIbc_pos r (by rw [h.1]; exact hcnt)) (fun sz => kX4_move l D cy sz e0 mi vo sw hm nt nw 6 nc χ sa α fk fp fa ft g h κ ζ L P dl δ p q n2 hχ (by omega) hok hP.2.1 hLe.1 hLe.2 (RR_dn hR (hχ p (by omega)) (by omega)) hp hq d)) (fun r u hr => ⟨?_, ?_⟩)
    · rw [mAct_0]; exact hr.1.trans (show (1 : Int32) = bI (decide ((0 : Int32) = 0)) from by decide)
    · exact CI_act_n hP (RR_0 hR _) (b5_rows h5 rfl) (bS_rows hS rfl rfl) h7 hnc (show n < 512 by omega) (by omega) hp (fun _ => hq) (fun z => absurd z (by omega)) (kFo_np hs.1 hs.2.2.1 (by omega)) (fun z => absurd z (by omega)) (fun z => by rcases z.1 with z | z <;> cases z) (hr.2.choose_spec).2 (by unfold CW; exact vp_pc (fun n9 hn9 h90 => by simp only [wJ, hn9, h90, Nat.add_zero, Nat.zero_add] <;> ac_rfl))
  · rw [if_neg d]
    exact vm_Qi (kL_isMove_S l D cy sz e0 mi vo (nI p) (nI q) w (wJ (uVP vo sw hm nt nw 6 nc) (wJ (uHM cy hm χ) (wJ (uSV cy sw sa) (fam4 (Sv cy sa g h κ ζ L P dl δ))))) (wJ (uLO nt nm nd NL) (wJ (Kw cy nw nka nκ nζ) (wJ (La cy nd nca NL) (wJ (pool NL.length (Nc nα nau nkd nna nth nwe nso)) (pool nc (Ac α fk fp fa ft)))))) k0 _ hk0 (e.trans (by unfold CW; exact vp_pc (fun n9 hn9 h90 => by simp only [wJ, hn9, h90, Nat.add_zero, Nat.zero_add] <;> ac_rfl))) ⟨rfl, rfl, by decide, by decide, by decide, by decide⟩ (fun sz => kX4_move_S l hfl D cy sz e0 mi vo sw hm nt nw 6 nc χ sa g h κ ζ L P dl δ p q hp hq n2 hχ (Bool.eq_false_iff.mpr d))) (fun r u hr => ⟨hr.trans (show (0 : Int32) = bI (decide ((2 : Int32) = 0)) from by decide), CI_thr hI0 _⟩)

theorem kN_isBoost (l : Launch) (hfl : l.stackTraces = false) (D : va_G) (cy : Nat → ClassId) (sz e0 mi vo n : Nat) (μ : Nat → Nat → Int32) (w : va_W) (hI : CI cy e0 vo n μ w) (hn : n < 511) (h6 : μ 1 0 = nI 6) {nn p i : Nat} (h11 : μ 11 0 = nI nn ∧ nn ≤ 50) (hp : p < 6) (hi : i < nn) : Met l yL_isBoost wsL_isBoost ({ frames := 13, cells := 12, slots := 12351, locals := 345 }) (vh_P D cy e0 mi [.ref vo, .int (nI p), .int (nI i)] sz w) (vg_Qi (S := va_W) D sz w (fun r u => r = bI (decide (mBoo μ (nI p) (nI i) 0 0 = 0)) ∧ CI cy e0 vo (n + 1) (mBoo μ (nI p) (nI i)) u) (fun u => u)) 12 12351 (va_A w sz) := by
  have hI0 := hI
  obtain ⟨sw, hm, nt, nw, np, nc, χ, sa, nm, nd, nca, NL, nka, nκ, nζ, nα, nau, nkd, nna, nth, nwe, nso, α, fk, fp, fa, ft, g, h, κ, ζ, L, P, lI, pI, dl, δ, e, hP, hR, h5, hS, h7, hnc⟩ := hI
  have e6 : np = 6 := nI_inj (by have := hR.1.1.2; omega) (by omega) (hR.1.1.1.symm.trans h6)
  subst e6
  have n2 := hR.1.1.2
  have hχ : ∀ j, j < 10 → χ j < 4 := fun j hj => (hR.1.2.1 j hj).2
  have hl := RR_len hR α (by omega)
  have hok := hP.1
  have hLe : vq_len L 1023 ∧ vq_len P 1023 := ⟨fun i hi => by rw [(hP.2.2.2.2.2 i hi).1]; exact hl.1 i hi, fun i hi => by rw [(hP.2.2.2.2.2 i hi).2]; exact hl.2 i hi⟩
  have n7 := hR.1.2.2.2.2
  obtain ⟨k0, hk0⟩ := List.mem_iff_getElem?.mp (e.mem_iff.mpr (show ((vo, .inr (5, [.ref sw, .ref hm, .ref nt, .ref nw, .int (nI 6), .int (nI nc)])) : Nat × va_E) ∈ CW cy vo sw hm nt nw 6 nc χ sa nm nd nca NL nka nκ nζ nα nau nkd nna nth nwe nso α fk fp fa ft g h κ ζ L P dl δ from List.mem_cons_self))
  rw [← NL_nn hR h11] at hi
  rw [mBoo_RR hR hp hi]
  by_cases c : ¬ nkd i = 0 ∨ kSee (κ (χ p)) (ζ (χ p)) p i (nau i) (nkd i) (nna i) = false ∨ kHsL (ζ (χ p) 0 p) i = true
  · rw [if_pos c]
    exact vm_Qi (kL_isBoost_S l D cy sz e0 mi vo (nI p) (nI i) w (wJ (uVP vo sw hm nt nw 6 nc) (wJ (uHM cy hm χ) (wJ (uSV cy sw sa) (wJ (uLO nt nm nd NL) (wJ (La cy nd nca NL) (wJ (pool NL.length (Nc nα nau nkd nna nth nwe nso)) (fam4 (Sv cy sa g h κ ζ L P dl δ)))))))) (wJ (Kw cy nw nka nκ nζ) (pool nc (Ac α fk fp fa ft))) k0 _ hk0 (e.trans (by unfold CW; exact vp_pc (fun n9 hn9 h90 => by simp only [wJ, hn9, h90, Nat.add_zero, Nat.zero_add] <;> ac_rfl))) ⟨rfl, rfl, by decide, by decide, by decide, by decide⟩ (fun sz => kX4_boost_S l hfl D cy sz e0 mi vo sw hm nt nw 6 nc χ sa nm nd nca NL nα nau nkd nna nth nwe nso g h κ ζ L P dl δ p i hp n2 hχ n7 hP.2.2.1 hP.2.2.2.1 (fun j hj => by have := (hR.2.2.2.1 j hj).2.1; omega) hi c)) (fun r u hr => ⟨hr.trans (show (0 : Int32) = bI (decide ((2 : Int32) = 0)) from by decide), CI_thr hI0 _⟩)
  · rw [if_neg c]
    have c1 : nkd i = 0 := Classical.byContradiction (fun z => c (Or.inl z))
    have c2 : kSee (κ (χ p)) (ζ (χ p)) p i (nau i) (nkd i) (nna i) = true := by cases z : kSee (κ (χ p)) (ζ (χ p)) p i (nau i) (nkd i) (nna i); exact absurd (Or.inr (Or.inl z)) c; rfl
    have c3 : kHsL (ζ (χ p) 0 p) i = false := Bool.eq_false_iff.mpr (fun z => c (Or.inr (Or.inr z)))
    refine vm_Qi (kL_isBoost_ok l D cy sz e0 mi vo (nI p) (nI i) w (wJ (uVP vo sw hm nt nw 6 nc) (wJ (uHM cy hm χ) (wJ (uSV cy sw sa) (wJ (uLO nt nm nd NL) (wJ (La cy nd nca NL) (wJ (pool NL.length (Nc nα nau nkd nna nth nwe nso)) (wJ (pool nc (Ac α fk fp fa ft)) (fam4 (Sv cy sa g h κ ζ L P dl δ))))))))) (Kw cy nw nka nκ nζ) k0 _ hk0 (e.trans (by unfold CW; exact vp_pc (fun n9 hn9 h90 => by simp only [wJ, hn9, h90, Nat.add_zero, Nat.zero_add] <;> ac_rfl))) _ _ ⟨rfl, rfl, by decide, by decide, by decide, by decide⟩ (fun sz => kX4_boost l D cy sz e0 mi vo sw hm nt nw 6 nc χ sa nm nd nca NL nα nau nkd nna nth nwe nso α fk fp fa ft g h κ ζ L P dl δ p i hp n2 hχ n7 hP.2.2.1 hP.2.2.2.1 (fun j hj => by have := (hR.2.2.2.1 j hj).2.1; omega) hi (by omega) hok hP.2.1 hLe.1 hLe.2 (RR_dn hR (hχ p (by omega)) (by omega)) c1 c2 c3)) (fun r u hr => ⟨?_, ?_⟩)
    · rw [mAct_0]; exact hr.1.trans (show (1 : Int32) = bI (decide ((0 : Int32) = 0)) from by decide)
    · exact CI_act_n hP (RR_0 hR _) (b5_rows h5 rfl) (bS_rows hS rfl rfl) h7 hnc (show n < 512 by omega) (by omega) hp (fun z => absurd z (by omega)) (fun _ => hi) (fun f hf z => by rw [kHas_0 (by omega)] at z; cases z) (fun z => absurd z (by omega)) (fun z => absurd z.1 (by omega)) hr.2 (by unfold CW; exact vp_pc (fun n9 hn9 h90 => by simp only [wJ, hn9, h90, Nat.add_zero, Nat.zero_add] <;> ac_rfl))

theorem kN_deletes (l : Launch) (hfl : l.stackTraces = false) (D : va_G) (cy : Nat → ClassId) (sz e0 mi vo n : Nat) (μ : Nat → Nat → Int32) (w : va_W) (hI : CI cy e0 vo n μ w) (hn : n < 511) (h6 : μ 1 0 = nI 6) {nn i : Nat} (h11 : μ 11 0 = nI nn ∧ nn ≤ 50) (hi : i < nn) : Met l yL_deletes wsL_deletes ({ frames := 13, cells := 12, slots := 12351, locals := 345 }) (vh_P D cy e0 mi [.ref vo, .int (nI i)] sz w) (vg_Qi (S := va_W) D sz w (fun r u => r = (if mDel μ (nI i) 0 0 = 0 then mDelR μ (nI i) else -1) ∧ CI cy e0 vo (n + 1) (mDel μ (nI i)) u) (fun u => u)) 12 12351 (va_A w sz) := by
  have hI0 := hI
  obtain ⟨sw, hm, nt, nw, np, nc, χ, sa, nm, nd, nca, NL, nka, nκ, nζ, nα, nau, nkd, nna, nth, nwe, nso, α, fk, fp, fa, ft, g, h, κ, ζ, L, P, lI, pI, dl, δ, e, hP, hR, h5, hS, h7, hnc⟩ := hI
  have e6 : np = 6 := nI_inj (by have := hR.1.1.2; omega) (by omega) (hR.1.1.1.symm.trans h6)
  subst e6
  have n2 := hR.1.1.2
  have hχ : ∀ j, j < 10 → χ j < 4 := fun j hj => (hR.1.2.1 j hj).2
  have hl := RR_len hR α (by omega)
  have hok := hP.1
  have hLe : vq_len L 1023 ∧ vq_len P 1023 := ⟨fun i hi => by rw [(hP.2.2.2.2.2 i hi).1]; exact hl.1 i hi, fun i hi => by rw [(hP.2.2.2.2.2 i hi).2]; exact hl.2 i hi⟩
  have n7 := hR.1.2.2.2.2
  obtain ⟨k0, hk0⟩ := List.mem_iff_getElem?.mp (e.mem_iff.mpr (show ((vo, .inr (5, [.ref sw, .ref hm, .ref nt, .ref nw, .int (nI 6), .int (nI nc)])) : Nat × va_E) ∈ CW cy vo sw hm nt nw 6 nc χ sa nm nd nca NL nka nκ nζ nα nau nkd nna nth nwe nso α fk fp fa ft g h κ ζ L P dl δ from List.mem_cons_self))
  rw [← NL_nn hR h11] at hi
  obtain ⟨m1, m2⟩ := mDel_RR hR hi
  have hau := (hR.2.2.2.1 i hi).2.1
  rw [m1, m2]
  by_cases c : kHsL (ζ (χ (nau i)) 2 0) i = true
  · rw [if_pos c, if_pos c]
    exact vm_Qi (kL_deletes_S l D cy sz e0 mi vo (nI i) w (wJ (uVP vo sw hm nt nw 6 nc) (wJ (uHM cy hm χ) (wJ (uSV cy sw sa) (wJ (uLO nt nm nd NL) (wJ (La cy nd nca NL) (wJ (pool NL.length (Nc nα nau nkd nna nth nwe nso)) (fam4 (Sv cy sa g h κ ζ L P dl δ)))))))) (wJ (Kw cy nw nka nκ nζ) (pool nc (Ac α fk fp fa ft))) k0 _ hk0 (e.trans (by unfold CW; exact vp_pc (fun n9 hn9 h90 => by simp only [wJ, hn9, h90, Nat.add_zero, Nat.zero_add] <;> ac_rfl))) ⟨rfl, rfl, by decide, by decide, by decide, by decide⟩ (fun sz => kX4_delete_S l hfl D cy sz e0 mi vo sw hm nt nw 6 nc χ sa nm nd nca NL nα nau nkd nna nth nwe nso g h κ ζ L P dl δ i hχ n7 hP.2.2.1 hP.2.2.2.1 (fun j hj => by have := (hR.2.2.2.1 j hj).2.1; omega) hi c)) (fun r u hr => ⟨hr, CI_thr hI0 _⟩)
  · rw [if_neg c, if_neg c]
    have hpl : vq_len P 1022 := fun j hj => by rw [(hP.2.2.2.2.2 j hj).2, List.length_map]; have := (hR.2.2.2.2.2.2.2.2.1 j hj).2.2; omega
    have hq4 : χ (nau i) < 4 := hχ _ (by omega)
    by_cases d : qC χ nkd nth i (χ (nau i))
    · obtain ⟨d1, t, ht, he, hx⟩ := d
      have hz : nso i = 0 := by rw [(hR.2.2.2.2.1 i hi).2.2.2 t ht he, if_pos hx]
      have e9 : ∀ (P : Nat → List Nat) q, sPk P q (nso i) 4 = P := fun P q => by rw [hz]; exact sPk_z P q 4 (by omega)
      refine vm_Qi (kL_deletes_ok l D cy sz e0 mi vo (nI i) w (wJ (uVP vo sw hm nt nw 6 nc) (wJ (uHM cy hm χ) (wJ (uSV cy sw sa) (wJ (uLO nt nm nd NL) (wJ (La cy nd nca NL) (wJ (pool NL.length (Nc nα nau nkd nna nth nwe nso)) (wJ (pool nc (Ac α fk fp fa ft)) (fam4 (Sv cy sa g h κ ζ L P dl δ))))))))) (Kw cy nw nka nκ nζ) k0 _ hk0 (e.trans (by unfold CW; exact vp_pc (fun n9 hn9 h90 => by simp only [wJ, hn9, h90, Nat.add_zero, Nat.zero_add] <;> ac_rfl))) _ _ ⟨rfl, rfl, by decide, by decide, by decide, by decide⟩ (fun sz => kX4_delete l D cy sz e0 mi vo sw hm nt nw 6 nc χ sa nm nd nca NL nα nau nkd nna nth nwe nso α fk fp fa ft g h κ ζ L P dl δ i (fun q => sPk P q (nwe i &&& (kBit (χ (nau i)) ^^^ (-1))) 4) hχ n7 hP.2.2.1 hP.2.2.2.1 (fun j hj => by have := (hR.2.2.2.1 j hj).2.1; omega) hi (by omega) hok hP.2.1 hLe.1 hLe.2 (RR_dn hR hq4 (by omega)) (Bool.eq_false_iff.mpr c) (fun q => by rw [he]; exact vSO_P (vSO_y9 _ _ _ _ _ _ _ _ _ _ _ _ _ _ _ _ _ _ _ _ _ _ _ _ _ _ _ _ nm nd nca NL (nα i) (nau i) (nkd i) (nna i) (nwe i) (nso i) t n2 (by omega) ht hχ (vq_el_new hP.2.1) (sPk_len hpl 4) hP.2.2.1 (hP.2.2.2.1 i hi) hq4 d1 hx) (e9 _ _) rfl))) (fun r u hr => ⟨?_, ?_⟩)
      · rw [mAct_0]; exact hr.1.trans (by rw [mBits_4 (nwe_lo4 hR hS hi)]; exact (if_pos rfl).symm)
      · exact CI_act_9 hP (RR_0 hR _) (b5_rows h5 rfl) (bS_rows hS rfl rfl) h7 hnc (show n < 512 by omega) hau hi (fun f hf z => by rw [kHas_0 (by omega)] at z; cases z) d1 ht he hx hz hr.2 (by unfold CW; exact vp_pc (fun n9 hn9 h90 => by simp only [wJ, hn9, h90, Nat.add_zero, Nat.zero_add] <;> ac_rfl))
    · obtain ⟨t, ht, htc⟩ := nth_t hR hi
      refine vm_Qi (kL_deletes_ok l D cy sz e0 mi vo (nI i) w (wJ (uVP vo sw hm nt nw 6 nc) (wJ (uHM cy hm χ) (wJ (uSV cy sw sa) (wJ (uLO nt nm nd NL) (wJ (La cy nd nca NL) (wJ (pool NL.length (Nc nα nau nkd nna nth nwe nso)) (wJ (pool nc (Ac α fk fp fa ft)) (fam4 (Sv cy sa g h κ ζ L P dl δ))))))))) (Kw cy nw nka nκ nζ) k0 _ hk0 (e.trans (by unfold CW; exact vp_pc (fun n9 hn9 h90 => by simp only [wJ, hn9, h90, Nat.add_zero, Nat.zero_add] <;> ac_rfl))) _ _ ⟨rfl, rfl, by decide, by decide, by decide, by decide⟩ (fun sz => kX4_delete l D cy sz e0 mi vo sw hm nt nw 6 nc χ sa nm nd nca NL nα nau nkd nna nth nwe nso α fk fp fa ft g h κ ζ L P dl δ i (fun q => sPk P q (nwe i &&& (kBit (χ (nau i)) ^^^ (-1))) 4) hχ n7 hP.2.2.1 hP.2.2.2.1 (fun j hj => by have := (hR.2.2.2.1 j hj).2.1; omega) hi (by omega) hok hP.2.1 hLe.1 hLe.2 (RR_dn hR hq4 (by omega)) (Bool.eq_false_iff.mpr c) (fun q => vSO_n9 _ _ _ _ _ _ _ _ _ _ _ _ _ _ _ _ _ _ _ _ _ _ _ _ _ _ _ _ nm nd nca NL (nα i) (nau i) (nkd i) (nna i) (nth i) (nwe i) (nso i) t hP.2.2.1 (hP.2.2.2.1 i hi) hq4 hχ ht (htc _ d)))) (fun r u hr => ⟨?_, ?_⟩)
      · rw [mAct_0]; exact hr.1.trans (by rw [mBits_4 (nwe_lo4 hR hS hi)]; exact (if_pos rfl).symm)
      · exact CI_act_n hP (RR_0 hR _) (b5_rows h5 rfl) (bS_rows hS rfl rfl) h7 hnc (show n < 512 by omega) (by omega) hau (fun z => absurd z (by omega)) (fun _ => hi) (fun f hf z => by rw [kHas_0 (by omega)] at z; cases z) (fun z => absurd z (by omega)) (fun z => d z.2) hr.2 (by unfold CW; exact vp_pc (fun n9 hn9 h90 => by simp only [wJ, hn9, h90, Nat.add_zero, Nat.zero_add] <;> ac_rfl))
