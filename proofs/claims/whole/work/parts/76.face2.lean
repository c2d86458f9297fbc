/-! more at the law's level -/
theorem kM_alias (l : Launch) (hfl : l.stackTraces = false) (D : va_G) (cy : Nat → ClassId) (sz e0 mi vo n : Nat) (μ : Nat → Nat → Int32) (w : va_W) (a b : Int32) (hI : CI cy e0 vo n μ w) (hn : n < 512) : Met l yL_alias wsL_alias ({ frames := 13, cells := 12, slots := 12351, locals := 345 }) (vk_P D cy e0 mi [.ref vo, .int a, .int b] sz w) (vg_Qi (S := va_W) D sz w (PI cy e0 vo (n + 1) (mAli μ a b)) (fun w => w)) 12 12351 (va_A w sz) := by
  have hI0 := hI
  obtain ⟨sw, hm, nt, nw, np, nc, χ, sa, nm, nd, nca, NL, nka, nκ, nζ, nα, nau, nkd, nna, nth, nwe, nso, α, fk, fp, fa, ft, g, h, κ, ζ, L, P, lI, pI, dl, δ, e, hP, hR, h5, hS, h7, hnc⟩ := hI
  obtain ⟨k0, hk0⟩ := List.mem_iff_getElem?.mp (e.mem_iff.mpr (show ((vo, .inr (5, [.ref sw, .ref hm, .ref nt, .ref nw, .int (nI np), .int (nI nc)])) : Nat × va_E) ∈ CW cy vo sw hm nt nw np nc χ sa nm nd nca NL nka nκ nζ nα nau nkd nna nth nwe nso α fk fp fa ft g h κ ζ L P dl δ from List.mem_cons_self))
  have n2 := hR.1.1.2
  have hχ : ∀ j, j < 10 → χ j < 4 := fun j hj => (hR.1.2.1 j hj).2
  have hl := RR_len hR α (by omega)
  have hok := hP.1
  have hLe : vq_len L 1023 ∧ vq_len P 1023 := ⟨fun i hi => by rw [(hP.2.2.2.2.2 i hi).1]; exact hl.1 i hi, fun i hi => by rw [(hP.2.2.2.2.2 i hi).2]; exact hl.2 i hi⟩
  rcases mTwo_np hR.1 a b with ⟨-, p, q, hp, hq, ea, eb⟩ | ⟨hf, hbad⟩
  · subst ea
    subst eb
    rw [mAli_RR hR hp hq]
    by_cases c : p = q
    · rw [if_pos c]
      subst c
      exact vm_Qi (kL_alias_A l D cy sz e0 mi vo (nI p) (nI p) w (uVP vo sw hm nt nw np nc) _ k0 _ hk0 e ⟨rfl, rfl, by decide, by decide, by decide, by decide⟩ (fun sz => kX4_alias_A l hfl D cy sz e0 mi vo sw hm nt nw np nc p hp n2)) (fun r u hr => ⟨hr, CI_thr hI0 _⟩)
    · rw [if_neg c]
      refine vm_Qi (kL_alias_ok l D cy sz e0 mi vo (nI p) (nI q) w (wJ (uVP vo sw hm nt nw np nc) (wJ (uHM cy hm χ) (wJ (uSV cy sw sa) (wJ (pool nc (Ac α fk fp fa ft)) (fam4 (Sv cy sa g h κ ζ L P dl δ)))))) (wJ (uLO nt nm nd NL) (wJ (Kw cy nw nka nκ nζ) (wJ (La cy nd nca NL) (pool NL.length (Nc nα nau nkd nna nth nwe nso))))) k0 _ hk0 (e.trans (by unfold CW; exact vp_pc (fun n9 hn9 h90 => by simp only [wJ, hn9, h90, Nat.add_zero, Nat.zero_add] <;> ac_rfl))) _ _ ⟨rfl, rfl, by decide, by decide, by decide, by decide⟩ (fun sz => kX4_alias l D cy sz e0 mi vo sw hm nt nw np nc χ sa α fk fp fa ft g h κ ζ L P dl δ p q n2 hχ (by omega) hok hP.2.1 hLe.1 hLe.2 (RR_dn hR (hχ p (by omega)) (by omega)) hp hq c)) (fun r u hr => ⟨?_, ?_⟩)
      · rw [mAct_0]; exact hr.1
      · exact CI_act_n hP (RR_0 hR _) (b5_rows h5 rfl) (bS_rows hS rfl rfl) h7 hnc hn (by omega) hp (fun _ => hq) (fun z => absurd z (by omega)) (fun f hf z => by rw [kHas_0 (by omega)] at z; cases z) (fun z => absurd z (by omega)) (fun z => by rcases z.1 with z | z <;> cases z) hr.2 (by unfold CW; exact vp_pc (fun n9 hn9 h90 => by simp only [wJ, hn9, h90, Nat.add_zero, Nat.zero_add] <;> ac_rfl))
  · rw [mAli, if_pos hf]
    exact vm_Qi (kL_alias_O l D cy sz e0 mi vo a b w (uVP vo sw hm nt nw np nc) _ k0 _ hk0 e ⟨rfl, rfl, by decide, by decide, by decide, by decide⟩ (fun sz => kX4_alias_O l hfl D cy sz e0 mi vo sw hm nt nw np nc a b hbad)) (fun r u hr => ⟨hr, CI_thr hI0 _⟩)
theorem kM_leave (l : Launch) (hfl : l.stackTraces = false) (D : va_G) (cy : Nat → ClassId) (sz e0 mi vo n : Nat) (μ : Nat → Nat → Int32) (w : va_W) (a b : Int32) (hI : CI cy e0 vo n μ w) (hn : n < 512) : Met l yL_leave wsL_leave ({ frames := 13, cells := 12, slots := 12351, locals := 345 }) (vk_P D cy e0 mi [.ref vo, .int a, .int b] sz w) (vg_Qi (S := va_W) D sz w (PI cy e0 vo (n + 1) (mLea μ a b)) (fun w => w)) 12 12351 (va_A w sz) := by
  have hI0 := hI
  obtain ⟨sw, hm, nt, nw, np, nc, χ, sa, nm, nd, nca, NL, nka, nκ, nζ, nα, nau, nkd, nna, nth, nwe, nso, α, fk, fp, fa, ft, g, h, κ, ζ, L, P, lI, pI, dl, δ, e, hP, hR, h5, hS, h7, hnc⟩ := hI
  obtain ⟨k0, hk0⟩ := List.mem_iff_getElem?.mp (e.mem_iff.mpr (show ((vo, .inr (5, [.ref sw, .ref hm, .ref nt, .ref nw, .int (nI np), .int (nI nc)])) : Nat × va_E) ∈ CW cy vo sw hm nt nw np nc χ sa nm nd nca NL nka nκ nζ nα nau nkd nna nth nwe nso α fk fp fa ft g h κ ζ L P dl δ from List.mem_cons_self))
  have n2 := hR.1.1.2
  have hχ : ∀ j, j < 10 → χ j < 4 := fun j hj => (hR.1.2.1 j hj).2
  have hl := RR_len hR α (by omega)
  have hok := hP.1
  have hLe : vq_len L 1023 ∧ vq_len P 1023 := ⟨fun i hi => by rw [(hP.2.2.2.2.2 i hi).1]; exact hl.1 i hi, fun i hi => by rw [(hP.2.2.2.2.2 i hi).2]; exact hl.2 i hi⟩
  rcases mTwo_np hR.1 a b with ⟨-, p, q, hp, hq, ea, eb⟩ | ⟨hf, hbad⟩
  · subst ea
    subst eb
    rw [mLea_RR hR hp hq]
    by_cases d : kHas (κ (χ p) 0 p) q = true
    · rw [if_pos (Or.inl d)]
      refine vm_Qi (kL_leave_ok l D cy sz e0 mi vo (nI p) (nI q) w (wJ (uVP vo sw hm nt nw np nc) (wJ (uHM cy hm χ) (wJ (uSV cy sw sa) (wJ (pool nc (Ac α fk fp fa ft)) (fam4 (Sv cy sa g h κ ζ L P dl δ)))))) (wJ (uLO nt nm nd NL) (wJ (Kw cy nw nka nκ nζ) (wJ (La cy nd nca NL) (pool NL.length (Nc nα nau nkd nna nth nwe nso))))) k0 _ hk0 (e.trans (by unfold CW; exact vp_pc (fun n9 hn9 h90 => by simp only [wJ, hn9, h90, Nat.add_zero, Nat.zero_add] <;> ac_rfl))) _ _ ⟨rfl, rfl, by decide, by decide, by decide, by decide⟩ (fun sz => kX4_leave_a l D cy sz e0 mi vo sw hm nt nw np nc χ sa α fk fp fa ft g h κ ζ L P dl δ p q n2 hχ (by omega) hok hP.2.1 hLe.1 hLe.2 (RR_dn hR (hχ p (by omega)) (by omega)) hp hq d)) (fun r u hr => ⟨?_, ?_⟩)
      · rw [mAct_0]; exact hr.1
      · exact CI_act_n hP (RR_0 hR _) (b5_rows h5 rfl) (bS_rows hS rfl rfl) h7 hnc hn (by omega) hp (fun _ => hq) (fun z => absurd z (by omega)) (fun f hf z => by rw [kHas_0 (by omega)] at z; cases z) (fun z => absurd z (by omega)) (fun z => by rcases z.1 with z | z <;> cases z) hr.2 (by unfold CW; exact vp_pc (fun n9 hn9 h90 => by simp only [wJ, hn9, h90, Nat.add_zero, Nat.zero_add] <;> ac_rfl))
    · have d1 := Bool.eq_false_iff.mpr d
      by_cases d2 : kHas (κ (χ p) 1 p) q = true
      · rw [if_pos (Or.inr d2)]
        refine vm_Qi (kL_leave_ok l D cy sz e0 mi vo (nI p) (nI q) w (wJ (uVP vo sw hm nt nw np nc) (wJ (uHM cy hm χ) (wJ (uSV cy sw sa) (wJ (pool nc (Ac α fk fp fa ft)) (fam4 (Sv cy sa g h κ ζ L P dl δ)))))) (wJ (uLO nt nm nd NL) (wJ (Kw cy nw nka nκ nζ) (wJ (La cy nd nca NL) (pool NL.length (Nc nα nau nkd nna nth nwe nso))))) k0 _ hk0 (e.trans (by unfold CW; exact vp_pc (fun n9 hn9 h90 => by simp only [wJ, hn9, h90, Nat.add_zero, Nat.zero_add] <;> ac_rfl))) _ _ ⟨rfl, rfl, by decide, by decide, by decide, by decide⟩ (fun sz => kX4_leave_f l D cy sz e0 mi vo sw hm nt nw np nc χ sa α fk fp fa ft g h κ ζ L P dl δ p q n2 hχ (by omega) hok hP.2.1 hLe.1 hLe.2 (RR_dn hR (hχ p (by omega)) (by omega)) hp hq d1 d2)) (fun r u hr => ⟨?_, ?_⟩)
        · rw [mAct_0]; exact hr.1
        · exact CI_act_n hP (RR_0 hR _) (b5_rows h5 rfl) (bS_rows hS rfl rfl) h7 hnc hn (by omega) hp (fun _ => hq) (fun z => absurd z (by omega)) (fun f hf z => by rw [kHas_0 (by omega)] at z; cases z) (fun z => absurd z (by omega)) (fun z => by rcases z.1 with z | z <;> cases z) hr.2 (by unfold CW; exact vp_pc (fun n9 hn9 h90 => by simp only [wJ, hn9, h90, Nat.add_zero, Nat.zero_add] <;> ac_rfl))
      · rw [if_neg (fun z => z.elim d d2)]
        exact vm_Qi (kL_leave_S l D cy sz e0 mi vo (nI p) (nI q) w (wJ (uVP vo sw hm nt nw np nc) (wJ (uHM cy hm χ) (wJ (uSV cy sw sa) (fam4 (Sv cy sa g h κ ζ L P dl δ))))) (wJ (uLO nt nm nd NL) (wJ (Kw cy nw nka nκ nζ) (wJ (La cy nd nca NL) (wJ (pool NL.length (Nc nα nau nkd nna nth nwe nso)) (pool nc (Ac α fk fp fa ft)))))) k0 _ hk0 (e.trans (by unfold CW; exact vp_pc (fun n9 hn9 h90 => by simp only [wJ, hn9, h90, Nat.add_zero, Nat.zero_add] <;> ac_rfl))) ⟨rfl, rfl, by decide, by decide, by decide, by decide⟩ (fun sz => kX4_leave_S l hfl D cy sz e0 mi vo sw hm nt nw np nc χ sa g h κ ζ L P dl δ p q hp hq n2 hχ d1 (Bool.eq_false_iff.mpr d2))) (fun r u hr => ⟨hr, CI_thr hI0 _⟩)
  · rw [mLea, if_pos hf]
    exact vm_Qi (kL_leave_O l D cy sz e0 mi vo a b w (uVP vo sw hm nt nw np nc) _ k0 _ hk0 e ⟨rfl, rfl, by decide, by decide, by decide, by decide⟩ (fun sz => kX4_leave_O l hfl D cy sz e0 mi vo sw hm nt nw np nc a b hbad)) (fun r u hr => ⟨hr, CI_thr hI0 _⟩)
