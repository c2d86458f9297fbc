/-! answer and block at the law's level -/
theorem kM_answer (l : Launch) (hfl : l.stackTraces = false) (D : va_G) (cy : Nat → ClassId) (sz e0 mi vo n : Nat) (μ : Nat → Nat → Int32) (w : va_W) (a b : Int32) (x : Bool) (hI : CI cy e0 vo n μ w) (hn : n < 512) : Met l yL_answer wsL_answer ({ frames := 13, cells := 12, slots := 12351, locals := 345 }) (vk_P D cy e0 mi [.ref vo, .int a, .int b, .int (bI x)] sz w) (vg_Qi (S := va_W) D sz w (PI cy e0 vo (n + 1) (mAns μ a b x)) (fun w => w)) 12 12351 (va_A w sz) := by
  have hI0 := hI
  obtain ⟨sw, hm, nt, nw, np, nc, χ, sa, nm, nd, nca, NL, nka, nκ, nζ, nα, nau, nkd, nna, nth, nwe, nso, α, fk, fp, fa, ft, g, h, κ, ζ, L, P, lI, pI, dl, δ, e, hP, hR, h5, hS, h7, hnc⟩ := hI
  obtain ⟨k0, hk0⟩ := List.mem_iff_getElem?.mp (e.mem_iff.mpr (show ((vo, .inr (5, [.ref sw, .ref hm, .ref nt, .ref nw, .int (nI np), .int (nI nc)])) : Nat × va_E) ∈ CW cy vo sw hm nt nw np nc χ sa nm nd nca NL nka nκ nζ nα nau nkd nna nth nwe nso α fk fp fa ft g h κ ζ L P dl δ from List.mem_cons_self))
  have n2 := hR.1.1.2
  have hχ : ∀ j, j < 10 → χ j < 4 := fun j hj => (hR.1.2.1 j hj).2
  have hl := RR_len hR α (by omega)
  have hok := hP.1
  have hLe : vq_len L 1023 ∧ vq_len P 1023 := ⟨fun i hi => by rw [(hP.2.2.2.2.2 i hi).1]; exact hl.1 i hi, fun i hi => by rw [(hP.2.2.2.2.2 i hi).2]; exact hl.2 i hi⟩
  rcases mTwo_np hR.1 a b with ⟨-, p, q, hp, hq, ea, eb⟩ | ⟨hf, hbad⟩
  · subst ea
    subst eb
    rw [mAns_RR hR x hp hq]
    by_cases d : kHas (κ (χ p) 0 q) p = true
    · rw [if_pos d]
      cases x
      · rw [if_neg (by decide)]
        refine vm_Qi (kL_answer_ok l D cy sz e0 mi vo (nI p) (nI q) 0 w (wJ (uVP vo sw hm nt nw np nc) (wJ (uHM cy hm χ) (wJ (uSV cy sw sa) (wJ (pool nc (Ac α fk fp fa ft)) (fam4 (Sv cy sa g h κ ζ L P dl δ)))))) (wJ (uLO nt nm nd NL) (wJ (Kw cy nw nka nκ nζ) (wJ (La cy nd nca NL) (pool NL.length (Nc nα nau nkd nna nth nwe nso))))) k0 _ hk0 (e.trans (by unfold CW; exact vp_pc (fun n9 hn9 h90 => by simp only [wJ, hn9, h90, Nat.add_zero, Nat.zero_add] <;> ac_rfl))) _ _ ⟨rfl, rfl, by decide, by decide, by decide, by decide⟩ (fun sz => kX4_answer_0 l D cy sz e0 mi vo sw hm nt nw np nc χ sa α fk fp fa ft g h κ ζ L P dl δ p q n2 hχ (by omega) hok hP.2.1 hLe.1 hLe.2 (RR_dn hR (hχ p (by omega)) (by omega)) hp hq d)) (fun r u hr => ⟨?_, ?_⟩)
        · rw [mAct_0]; exact hr.1
        · exact CI_act_n hP (RR_0 hR _) (b5_rows h5 rfl) (bS_rows hS rfl rfl) h7 hnc hn (by omega) hp (fun _ => hq) (fun z => absurd z (by omega)) (fun f hf z => by rw [kHas_0 (by omega)] at z; cases z) (fun z => absurd z (by omega)) (fun z => by rcases z.1 with z | z <;> cases z) hr.2 (by unfold CW; exact vp_pc (fun n9 hn9 h90 => by simp only [wJ, hn9, h90, Nat.add_zero, Nat.zero_add] <;> ac_rfl))
      · rw [if_pos rfl]
        refine vm_Qi (kL_answer_ok l D cy sz e0 mi vo (nI p) (nI q) 1 w (wJ (uVP vo sw hm nt nw np nc) (wJ (uHM cy hm χ) (wJ (uSV cy sw sa) (wJ (pool nc (Ac α fk fp fa ft)) (fam4 (Sv cy sa g h κ ζ L P dl δ)))))) (wJ (uLO nt nm nd NL) (wJ (Kw cy nw nka nκ nζ) (wJ (La cy nd nca NL) (pool NL.length (Nc nα nau nkd nna nth nwe nso))))) k0 _ hk0 (e.trans (by unfold CW; exact vp_pc (fun n9 hn9 h90 => by simp only [wJ, hn9, h90, Nat.add_zero, Nat.zero_add] <;> ac_rfl))) _ _ ⟨rfl, rfl, by decide, by decide, by decide, by decide⟩ (fun sz => kX4_answer_1 l D cy sz e0 mi vo sw hm nt nw np nc χ sa α fk fp fa ft g h κ ζ L P dl δ p q n2 hχ (by omega) hok hP.2.1 hLe.1 hLe.2 (RR_dn hR (hχ p (by omega)) (by omega)) hp hq d)) (fun r u hr => ⟨?_, ?_⟩)
        · rw [mAct_0]; exact hr.1
        · exact CI_act_n hP (RR_0 hR _) (b5_rows h5 rfl) (bS_rows hS rfl rfl) h7 hnc hn (by omega) hp (fun _ => hq) (fun z => absurd z (by omega)) (fun f hf z => by rw [kHas_0 (by omega)] at z; cases z) (fun z => absurd z (by omega)) (fun z => by rcases z.1 with z | z <;> cases z) hr.2 (by unfold CW; exact vp_pc (fun n9 hn9 h90 => by simp only [wJ, hn9, h90, Nat.add_zero, Nat.zero_add] <;> ac_rfl))
    · rw [if_neg d]
      exact vm_Qi (kL_answer_S l D cy sz e0 mi vo (nI p) (nI q) (bI x) w (wJ (uVP vo sw hm nt nw np nc) (wJ (uHM cy hm χ) (wJ (uSV cy sw sa) (fam4 (Sv cy sa g h κ ζ L P dl δ))))) (wJ (uLO nt nm nd NL) (wJ (Kw cy nw nka nκ nζ) (wJ (La cy nd nca NL) (wJ (pool NL.length (Nc nα nau nkd nna nth nwe nso)) (pool nc (Ac α fk fp fa ft)))))) k0 _ hk0 (e.trans (by unfold CW; exact vp_pc (fun n9 hn9 h90 => by simp only [wJ, hn9, h90, Nat.add_zero, Nat.zero_add] <;> ac_rfl))) ⟨rfl, rfl, by decide, by decide, by decide, by decide⟩ (fun sz => kX4_answer_S l hfl D cy sz e0 mi vo sw hm nt nw np nc χ sa g h κ ζ L P dl δ p q (bI x) hp hq n2 hχ (Bool.eq_false_iff.mpr d))) (fun r u hr => ⟨hr, CI_thr hI0 _⟩)
  · rw [mAns, if_pos hf]
    exact vm_Qi (kL_answer_O l D cy sz e0 mi vo a b (bI x) w (uVP vo sw hm nt nw np nc) _ k0 _ hk0 e ⟨rfl, rfl, by decide, by decide, by decide, by decide⟩ (fun sz => kX4_answer_O l hfl D cy sz e0 mi vo sw hm nt nw np nc a b (bI x) hbad)) (fun r u hr => ⟨hr, CI_thr hI0 _⟩)
theorem kM_block (l : Launch) (hfl : l.stackTraces = false) (D : va_G) (cy : Nat → ClassId) (sz e0 mi vo n : Nat) (μ : Nat → Nat → Int32) (w : va_W) (a b : Int32) (x : Bool) (hI : CI cy e0 vo n μ w) (hn : n < 512) : Met l yL_block wsL_block ({ frames := 13, cells := 12, slots := 12351, locals := 345 }) (vk_P D cy e0 mi [.ref vo, .int a, .int b, .int (bI x)] sz w) (vg_Qi (S := va_W) D sz w (PI cy e0 vo (n + 1) (mBlo μ a b x)) (fun w => w)) 12 12351 (va_A w sz) := by
  have hI0 := hI
  obtain ⟨sw, hm, nt, nw, np, nc, χ, sa, nm, nd, nca, NL, nka, nκ, nζ, nα, nau, nkd, nna, nth, nwe, nso, α, fk, fp, fa, ft, g, h, κ, ζ, L, P, lI, pI, dl, δ, e, hP, hR, h5, hS, h7, hnc⟩ := hI
  obtain ⟨k0, hk0⟩ := List.mem_iff_getElem?.mp (e.mem_iff.mpr (show ((vo, .inr (5, [.ref sw, .ref hm, .ref nt, .ref nw, .int (nI np), .int (nI nc)])) : Nat × va_E) ∈ CW cy vo sw hm nt nw np nc χ sa nm nd nca NL nka nκ nζ nα nau nkd nna nth nwe nso α fk fp fa ft g h κ ζ L P dl δ from List.mem_cons_self))
  have n2 := hR.1.1.2
  have hχ : ∀ j, j < 10 → χ j < 4 := fun j hj => (hR.1.2.1 j hj).2
  have hl := RR_len hR α (by omega)
  have hok := hP.1
  have hLe : vq_len L 1023 ∧ vq_len P 1023 := ⟨fun i hi => by rw [(hP.2.2.2.2.2 i hi).1]; exact hl.1 i hi, fun i hi => by rw [(hP.2.2.2.2.2 i hi).2]; exact hl.2 i hi⟩
  rcases mTwo_np hR.1 a b with ⟨-, p, q, hp, hq, ea, eb⟩ | ⟨hf, hbad⟩
  · subst ea
    subst eb
    rw [mBlo_RR hR x hp hq h5]
    by_cases c : p = q
    · rw [if_pos c]
      subst c
      exact vm_Qi (kL_block_A l D cy sz e0 mi vo (nI p) (nI p) (bI x) w (uVP vo sw hm nt nw np nc) _ k0 _ hk0 e ⟨rfl, rfl, by decide, by decide, by decide, by decide⟩ (fun sz => kX4_block_A l hfl D cy sz e0 mi vo sw hm nt nw np nc p (bI x) hp n2)) (fun r u hr => ⟨hr, CI_thr hI0 _⟩)
    · rw [if_neg c]
      by_cases d : kHas (κ (χ p) 2 p) q = x
      · rw [if_pos d]
        exact vm_Qi (kL_block_S l D cy sz e0 mi vo (nI p) (nI q) (bI x) w (wJ (uVP vo sw hm nt nw np nc) (wJ (uHM cy hm χ) (wJ (uSV cy sw sa) (fam4 (Sv cy sa g h κ ζ L P dl δ))))) (wJ (uLO nt nm nd NL) (wJ (Kw cy nw nka nκ nζ) (wJ (La cy nd nca NL) (wJ (pool NL.length (Nc nα nau nkd nna nth nwe nso)) (pool nc (Ac α fk fp fa ft)))))) k0 _ hk0 (e.trans (by unfold CW; exact vp_pc (fun n9 hn9 h90 => by simp only [wJ, hn9, h90, Nat.add_zero, Nat.zero_add] <;> ac_rfl))) ⟨rfl, rfl, by decide, by decide, by decide, by decide⟩ (fun sz => kX4_block_S l hfl D cy sz e0 mi vo sw hm nt nw np nc χ sa g h κ ζ L P dl δ p q x hp hq n2 hχ c d)) (fun r u hr => ⟨hr, CI_thr hI0 _⟩)
      · rw [if_neg d]
        cases x
        · rw [if_neg (by decide)]
          refine vm_Qi (kL_block_ok l D cy sz e0 mi vo (nI p) (nI q) 0 w (wJ (uVP vo sw hm nt nw np nc) (wJ (uHM cy hm χ) (wJ (uSV cy sw sa) (wJ (pool nc (Ac α fk fp fa ft)) (fam4 (Sv cy sa g h κ ζ L P dl δ)))))) (wJ (uLO nt nm nd NL) (wJ (Kw cy nw nka nκ nζ) (wJ (La cy nd nca NL) (pool NL.length (Nc nα nau nkd nna nth nwe nso))))) k0 _ hk0 (e.trans (by unfold CW; exact vp_pc (fun n9 hn9 h90 => by simp only [wJ, hn9, h90, Nat.add_zero, Nat.zero_add] <;> ac_rfl))) _ _ ⟨rfl, rfl, by decide, by decide, by decide, by decide⟩ (fun sz => kX4_block_0 l D cy sz e0 mi vo sw hm nt nw np nc χ sa α fk fp fa ft g h κ ζ L P dl δ p q n2 hχ (by omega) hok hP.2.1 hLe.1 hLe.2 (RR_dn hR (hχ p (by omega)) (by omega)) hp hq c (by cases z : kHas (κ (χ p) 2 p) q; exact absurd z d; rfl))) (fun r u hr => ⟨?_, ?_⟩)
          · rw [mAct_0]; exact hr.1
          · exact CI_act_n hP (RR_0 hR _) (b5_rows h5 rfl) (bS_rows hS rfl rfl) h7 hnc hn (by omega) hp (fun _ => hq) (fun z => absurd z (by omega)) (fun f hf z => by rw [kHas_0 (by omega)] at z; cases z) (fun z => absurd z (by omega)) (fun z => by rcases z.1 with z | z <;> cases z) hr.2 (by unfold CW; exact vp_pc (fun n9 hn9 h90 => by simp only [wJ, hn9, h90, Nat.add_zero, Nat.zero_add] <;> ac_rfl))
        · rw [if_pos rfl]
          refine vm_Qi (kL_block_ok l D cy sz e0 mi vo (nI p) (nI q) 1 w (wJ (uVP vo sw hm nt nw np nc) (wJ (uHM cy hm χ) (wJ (uSV cy sw sa) (wJ (pool nc (Ac α fk fp fa ft)) (fam4 (Sv cy sa g h κ ζ L P dl δ)))))) (wJ (uLO nt nm nd NL) (wJ (Kw cy nw nka nκ nζ) (wJ (La cy nd nca NL) (pool NL.length (Nc nα nau nkd nna nth nwe nso))))) k0 _ hk0 (e.trans (by unfold CW; exact vp_pc (fun n9 hn9 h90 => by simp only [wJ, hn9, h90, Nat.add_zero, Nat.zero_add] <;> ac_rfl))) _ _ ⟨rfl, rfl, by decide, by decide, by decide, by decide⟩ (fun sz => kX4_block_1 l D cy sz e0 mi vo sw hm nt nw np nc χ sa α fk fp fa ft g h κ ζ L P dl δ p q n2 hχ (by omega) hok hP.2.1 hLe.1 hLe.2 (RR_dn hR (hχ p (by omega)) (by omega)) hp hq c (by cases z : kHas (κ (χ p) 2 p) q; rfl; exact absurd z d))) (fun r u hr => ⟨?_, ?_⟩)
          · rw [mAct_0]; exact hr.1
          · exact CI_act_n hP (RR_0 hR _) (b5_rows h5 rfl) (bS_rows hS rfl rfl) h7 hnc hn (by omega) hp (fun _ => hq) (fun z => absurd z (by omega)) (fun f hf z => by rw [kHas_0 (by omega)] at z; cases z) (fun z => absurd z (by omega)) (fun z => by rcases z.1 with z | z <;> cases z) hr.2 (by unfold CW; exact vp_pc (fun n9 hn9 h90 => by simp only [wJ, hn9, h90, Nat.add_zero, Nat.zero_add] <;> ac_rfl))
  · rw [mBlo, if_pos hf]
    exact vm_Qi (kL_block_O l D cy sz e0 mi vo a b (bI x) w (uVP vo sw hm nt nw np nc) _ k0 _ hk0 e ⟨rfl, rfl, by decide, by decide, by decide, by decide⟩ (fun sz => kX4_block_O l hfl D cy sz e0 mi vo sw hm nt nw np nc a b (bI x) hbad)) (fun r u hr => ⟨hr, CI_thr hI0 _⟩)
