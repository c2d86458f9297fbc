/-! an act at the class's world -/
theorem CI_act_n {cy : Nat → ClassId} {e0 vo sw hm nt nw np nc : Nat} {χ sa : Nat → Nat} {nm nd nca : Nat} {NL : List Nat} {nka : Nat → Nat} {nκ : Nat → Nat → Int32} {nζ : Nat → Nat → Int64} {nα nau : Nat → Nat} {nkd nna nth nwe nso : Nat → Int32} {α fk fp fa : Nat → Nat} {ft : Nat → Int32} {g h : Nat → Nat → Nat} {κ : Nat → Nat → Nat → Int32} {ζ : Nat → Nat → Nat → Int64} {L P lI pI : Nat → List Nat} {dl : Nat → Nat} {δ : Nat → Nat → Int32} {μ : Nat → Nat → Int32} {n : Nat} (hP : CP e0 nc nd nca NL nα nau nkd nna nth nwe nso α fk fp fa ft h L P lI pI) (hR : RR np nc NL.length χ nau nkd nna nth nwe nso fk fp fa ft κ ζ lI pI dl δ μ (2 * n)) (h5 : b5 μ) (hS : bS μ) (h7 : q7 pI dl δ) (hnc : nc ≤ n) {h2 : Nat → Nat → Nat} {k p q u : Nat} {td sv : Int32} (hn : n < 512) (hk : k < 11) (hp : p < np) (hq : k < 8 → q < np) (hq8 : 8 ≤ k → q < NL.length) (hf : ∀ f, f < 10 → kHas td f = true → f < np) (h8 : k = 8 → (∀ b, b < nc → fk b = 8 → ¬ fa b = q) ∧ ∀ s, s < 4 → μ 9 (50 * s + q) = 0) (hc : ¬ ((k = 8 ∨ k = 9) ∧ qC χ nkd nth q (χ p))) (hok : vq_ok e0 h2 (va_up L (χ p) (L (χ p) ++ [u])) (sPk P u (sv &&& (kBit (χ p) ^^^ (-1))) 4)) {w : va_W} (hw : w.Perm (CW cy vo sw hm nt nw np (nc + 1) χ sa nm nd nca NL nka nκ nζ nα nau nkd nna nth nwe nso (va_up α nc u) (va_up fk nc k) (va_up fp nc p) (va_up fa nc q) (va_up ft nc td) g h2 (va_up κ (χ p) (kLearn (κ (χ p)) k p q td)) (va_up ζ (χ p) (zLearn (ζ (χ p)) k p q)) (va_up L (χ p) (L (χ p) ++ [u])) (sPk P u (sv &&& (kBit (χ p) ^^^ (-1))) 4) dl (va_up δ (χ p) (upd (δ (χ p)) nc 1)))) : CI cy e0 vo (n + 1) (mAct μ k p q td sv) w := by
  obtain ⟨r0, r1, r2, r3, r4, r5, r6, r7⟩ := RR_act_n (sv := sv) hR (by omega) hk hp hq hq8 hf h8 (by omega) hc
  have n2 := hR.1.1.2
  have n7 := hR.1.2.2.2.2
  have hq50 : q < 50 := (Nat.lt_or_ge k 8).elim (fun c => by have := hq c; omega) (fun c => by have := hq8 c; omega)
  exact ⟨sw, hm, nt, nw, np, nc + 1, χ, sa, nm, nd, nca, NL, nka, nκ, nζ, nα, nau, nkd, nna, nth, nwe, nso, _, _, _, _, _, g, h2, _, _, _, _, _, _, dl, _, hw, CP_act hP hR hok, ⟨r0, r1, r2, r3, r4, r5, r6, q6_mono r7 (by omega)⟩, b5_act h5 _ _ _ _ _, bS_act hS hR.2.1 td sv hk (by omega) hq50 (fun c => by have := hq c; omega), q7_dlt (q7_snd _ h7 (fun i hi => (hR.2.2.2.2.2.2.2.2.1 i hi).2.1)), by omega⟩
theorem mAct_0 (μ : Nat → Nat → Int32) (k p q : Nat) (td sv : Int32) : mAct μ k p q td sv 0 = μ 0 := by
  rw [mAct, mDo_k _ _ _ (by decide) (by decide) (by decide) (by decide) (by decide) (by decide) (by decide) (by decide) (by decide) (by decide) (by decide), mSnd_k _ _ _ (by decide) (by decide) 4]
  rfl
theorem kM_follow (l : Launch) (hfl : l.stackTraces = false) (D : va_G) (cy : Nat → ClassId) (sz e0 mi vo n : Nat) (μ : Nat → Nat → Int32) (w : va_W) (a b : Int32) (hI : CI cy e0 vo n μ w) (hn : n < 512) : Met l yL_follow wsL_follow ({ frames := 13, cells := 12, slots := 12351, locals := 345 }) (vk_P D cy e0 mi [.ref vo, .int a, .int b] sz w) (vg_Qi (S := va_W) D sz w (PI cy e0 vo (n + 1) (mFlw μ a b)) (fun w => w)) 12 12351 (va_A w sz) := by
  have hI0 := hI
  obtain ⟨sw, hm, nt, nw, np, nc, χ, sa, nm, nd, nca, NL, nka, nκ, nζ, nα, nau, nkd, nna, nth, nwe, nso, α, fk, fp, fa, ft, g, h, κ, ζ, L, P, lI, pI, dl, δ, e, hP, hR, h5, hS, h7, hnc⟩ := hI
  obtain ⟨k0, hk0⟩ := List.mem_iff_getElem?.mp (e.mem_iff.mpr (show ((vo, .inr (5, [.ref sw, .ref hm, .ref nt, .ref nw, .int (nI np), .int (nI nc)])) : Nat × va_E) ∈ CW cy vo sw hm nt nw np nc χ sa nm nd nca NL nka nκ nζ nα nau nkd nna nth nwe nso α fk fp fa ft g h κ ζ L P dl δ from List.mem_cons_self))
  have n2 := hR.1.1.2
  have hχ : ∀ j, j < 10 → χ j < 4 := fun j hj => (hR.1.2.1 j hj).2
  rcases mTwo_np hR.1 a b with ⟨-, p, q, hp, hq, ea, eb⟩ | ⟨hf, hbad⟩
  · subst ea
    subst eb
    rw [mFlw_RR hR hp hq]
    by_cases c : p = q
    · rw [if_pos c]
      subst c
      exact vm_Qi (kL_follow_A l D cy sz e0 mi vo (nI p) (nI p) w (uVP vo sw hm nt nw np nc) _ k0 _ hk0 e ⟨rfl, rfl, by decide, by decide, by decide, by decide⟩ (fun sz => kX4_follow_A l hfl D cy sz e0 mi vo sw hm nt nw np nc p hp n2)) (fun r u hr => ⟨hr, CI_thr hI0 _⟩)
    · rw [if_neg c]
      by_cases d : kHas (κ (χ p) 0 p) q = true ∨ kHas (κ (χ p) 1 p) q = true ∨ kBet (κ (χ p)) p q = true
      · rw [if_pos d]
        exact vm_Qi (kL_follow_S l D cy sz e0 mi vo (nI p) (nI q) w (wJ (uVP vo sw hm nt nw np nc) (wJ (uHM cy hm χ) (wJ (uSV cy sw sa) (fam4 (Sv cy sa g h κ ζ L P dl δ))))) (wJ (uLO nt nm nd NL) (wJ (Kw cy nw nka nκ nζ) (wJ (La cy nd nca NL) (wJ (pool NL.length (Nc nα nau nkd nna nth nwe nso)) (pool nc (Ac α fk fp fa ft)))))) k0 _ hk0 (e.trans (by unfold CW; exact vp_pc (fun n9 hn9 h90 => by simp only [wJ, hn9, h90, Nat.add_zero, Nat.zero_add] <;> ac_rfl))) ⟨rfl, rfl, by decide, by decide, by decide, by decide⟩ (fun sz => kX4_follow_S l hfl D cy sz e0 mi vo sw hm nt nw np nc χ sa g h κ ζ L P dl δ p q hp hq n2 hχ c d)) (fun r u hr => ⟨hr, CI_thr hI0 _⟩)
      · have hl := RR_len hR α (by omega)
        have hok := hP.1
        have hLe : vq_len L 1023 ∧ vq_len P 1023 := ⟨fun i hi => by rw [(hP.2.2.2.2.2 i hi).1]; exact hl.1 i hi, fun i hi => by rw [(hP.2.2.2.2.2 i hi).2]; exact hl.2 i hi⟩
        rw [if_neg d]
        have d1 : kHas (κ (χ p) 0 p) q = false := Bool.eq_false_iff.mpr (fun z => d (Or.inl z))
        have d2 : kHas (κ (χ p) 1 p) q = false := Bool.eq_false_iff.mpr (fun z => d (Or.inr (Or.inl z)))
        have d3 : kBet (κ (χ p)) p q = false := Bool.eq_false_iff.mpr (fun z => d (Or.inr (Or.inr z)))
        refine vm_Qi (kL_follow_ok l D cy sz e0 mi vo (nI p) (nI q) w (wJ (uVP vo sw hm nt nw np nc) (wJ (uHM cy hm χ) (wJ (uSV cy sw sa) (wJ (pool nc (Ac α fk fp fa ft)) (fam4 (Sv cy sa g h κ ζ L P dl δ)))))) (wJ (uLO nt nm nd NL) (wJ (Kw cy nw nka nκ nζ) (wJ (La cy nd nca NL) (pool NL.length (Nc nα nau nkd nna nth nwe nso))))) k0 _ hk0 (e.trans (by unfold CW; exact vp_pc (fun n9 hn9 h90 => by simp only [wJ, hn9, h90, Nat.add_zero, Nat.zero_add] <;> ac_rfl))) _ _ ⟨rfl, rfl, by decide, by decide, by decide, by decide⟩ (fun sz => kX4_follow l D cy sz e0 mi vo sw hm nt nw np nc χ sa α fk fp fa ft g h κ ζ L P dl δ p q n2 hχ (by omega) hok hP.2.1 hLe.1 hLe.2 (RR_dn hR (hχ p (by omega)) (by omega)) hp hq c d1 d2 d3)) (fun r u hr => ⟨?_, ?_⟩)
        · rw [mAct_0]; exact hr.1
        · exact CI_act_n hP (RR_0 hR _) (b5_rows h5 rfl) (bS_rows hS rfl rfl) h7 hnc hn (by omega) hp (fun _ => hq) (fun z => absurd z (by omega)) (fun f hf z => by rw [kHas_0 (by omega)] at z; cases z) (fun z => absurd z (by omega)) (fun z => by rcases z.1 with z | z <;> cases z) hr.2 (by unfold CW; exact vp_pc (fun n9 hn9 h90 => by simp only [wJ, hn9, h90, Nat.add_zero, Nat.zero_add] <;> ac_rfl))
  · rw [mFlw, if_pos hf]
    exact vm_Qi (kL_follow_O l D cy sz e0 mi vo a b w (uVP vo sw hm nt nw np nc) _ k0 _ hk0 e ⟨rfl, rfl, by decide, by decide, by decide, by decide⟩ (fun sz => kX4_follow_O l hfl D cy sz e0 mi vo sw hm nt nw np nc a b hbad)) (fun r u hr => ⟨hr, CI_thr hI0 _⟩)
