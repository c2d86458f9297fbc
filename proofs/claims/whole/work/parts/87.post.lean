/-! post at the law's level, the call -/
set_option maxHeartbeats 4000000 in
theorem kM_post (l : Launch) (hfl : l.stackTraces = false) (D : va_G) (cy : Nat → ClassId) (sz e0 mi vo n : Nat) (μ : Nat → Nat → Int32) (w : va_W) (a : Int32) (k : Int32) (b : Int32) (r : Int32) (oa : Nat) (ff : Nat → Int64) (hI : CI cy e0 vo n μ w) (hn : n < 512) : Met l yL_post wsL_post ({ frames := 13, cells := 12, slots := 12351, locals := 345 }) (vk_P D cy e0 mi [.ref vo, .int a, .int k, .int b, .int r, .ref oa] sz (wJ (uOut cy oa ff) w)) (vg_Qi (S := (Nat → Int64) × va_W) D sz (wJ (uOut cy oa ff) w) (PO cy e0 vo (n + 1) (mPos μ a k b r) ff (mPosR μ a k b r)) (fun u => wJ (uOut cy oa u.1) u.2)) 12 12351 (va_A (wJ (uOut cy oa ff) w) sz) := by
  have hI0 := hI
  obtain ⟨sw, hm, nt, nw, np, nc, χ, sa, nm, nd, nca, NL, nka, nκ, nζ, nα, nau, nkd, nna, nth, nwe, nso, α, fk, fp, fa, ft, g, h, κ, ζ, L, P, lI, pI, dl, δ, e, hP, hR, h5, hS, h7, hnc⟩ := hI
  obtain ⟨k0, hk0⟩ := List.mem_iff_getElem?.mp (e.mem_iff.mpr (show ((vo, .inr (5, [.ref sw, .ref hm, .ref nt, .ref nw, .int (nI np), .int (nI nc)])) : Nat × va_E) ∈ CW cy vo sw hm nt nw np nc χ sa nm nd nca NL nka nκ nζ nα nau nkd nna nth nwe nso α fk fp fa ft g h κ ζ L P dl δ from List.mem_cons_self))
  have n2 := hR.1.1.2
  have hχ : ∀ j, j < 10 → χ j < 4 := fun j hj => (hR.1.2.1 j hj).2
  have hl := RR_len hR α (by omega)
  have hok := hP.1
  have hLe : vq_len L 1023 ∧ vq_len P 1023 := ⟨fun i hi => by rw [(hP.2.2.2.2.2 i hi).1]; exact hl.1 i hi, fun i hi => by rw [(hP.2.2.2.2.2 i hi).2]; exact hl.2 i hi⟩
  have n7 := hR.1.2.2.2.2
  have en : tn (μ 11 0) = NL.length := by rw [hR.1.2.2.2.1, tn_nI (by omega)]
  have hA := mIn_np a (n := np) (by omega)
  rw [← hR.1.1.1] at hA
  classical
  rcases hA with ⟨ha, p, hp, ea⟩ | ⟨ha, hbad⟩
  · subst ea
    have hp10 : p < 10 := by omega
    by_cases hr9 : r = -1
    · subst hr9
      by_cases gq : pG np k b
      · have g0 := gq
        obtain ⟨g1, g2, g3, g4⟩ := gq
        by_cases f : NL.length = 50
        · have hT : mPosT μ (nI p) k b (-1) = 3 := by rw [mPosT_0 hR hp k b, if_neg (fun z => z g0), if_pos f]
          rw [mPos, mPosR, hT, if_neg (by decide), if_neg (by decide)]
          exact vm_Qo (fun _ => (ff, w)) (fun _ => rfl) (kL_post_S l D cy sz e0 mi vo (nI p) k b (-1) oa ff w (wJ (uVP vo sw hm nt nw np nc) (uLO nt nm nd NL)) (wJ (uHM cy hm χ) (wJ (uSV cy sw sa) (wJ (Kw cy nw nka nκ nζ) (wJ (La cy nd nca NL) (wJ (pool NL.length (Nc nα nau nkd nna nth nwe nso)) (wJ (pool nc (Ac α fk fp fa ft)) (fam4 (Sv cy sa g h κ ζ L P dl δ)))))))) k0 _ hk0 (e.trans (by unfold CW; exact vp_pc (fun n9 hn9 h90 => by simp only [wJ, hn9, h90, Nat.add_zero, Nat.zero_add] <;> ac_rfl))) ⟨rfl, rfl, by decide, by decide, by decide, by decide⟩ (fun sz => kX4_post_S0 l hfl D cy sz e0 mi vo sw hm nt nw np nc p nm nd NL k b hp n2 f g1 g2 g3 g4)) (fun r u hr => ⟨hr, fun z => absurd (hr.symm.trans z) (by decide), fun _ => rfl, CI_thr hI0 _⟩)
        · have hT : mPosT μ (nI p) k b (-1) = 0 := by rw [mPosT_0 hR hp k b, if_neg (fun z => z g0), if_neg f]
          rw [mPos, mPosR, hT, if_pos rfl, if_pos rfl]
          have h50 : NL.length < 50 := by omega
          have hnq : ¬ qC χ (va_up nkd NL.length k) (va_up nth NL.length (-1)) NL.length (χ p) := fun ⟨_, t, ht, he, _⟩ => by
            rw [va_up_self] at he
            have h9 := congrArg Int32.toInt he
            rw [nI_toInt (by omega), show (-1 : Int32).toInt = -1 from by decide] at h9
            omega
          rw [tn_nI (by omega), en]
          have hwe := (mTo_RR hR hp k b).1
          have hpl : vq_len P 1022 := fun j hj => by rw [(hP.2.2.2.2.2 j hj).2, List.length_map]; have := (hR.2.2.2.2.2.2.2.2.1 j hj).2.2; omega
          have h4 : lo4 ((cTo0 χ (κ (χ p)) np p k b) &&& (kBit (χ p) ^^^ (-1))) := lo4_and (cTo0_lo4 hχ _ n2 p k b) _
          refine vm_Qok (kL_post_ok l D cy sz e0 mi vo (nI p) k b (-1) oa ff w (wJ (uVP vo sw hm nt nw np nc) (wJ (uHM cy hm χ) (wJ (uSV cy sw sa) (wJ (uLO nt nm nd NL) (wJ (La cy nd nca NL) (wJ (pool NL.length (Nc nα nau nkd nna nth nwe nso)) (wJ (pool nc (Ac α fk fp fa ft)) (fam4 (Sv cy sa g h κ ζ L P dl δ))))))))) (Kw cy nw nka nκ nζ) k0 _ hk0 (e.trans (by unfold CW; exact vp_pc (fun n9 hn9 h90 => by simp only [wJ, hn9, h90, Nat.add_zero, Nat.zero_add] <;> ac_rfl))) _ _ ⟨rfl, rfl, by decide, by decide, by decide, by decide⟩ (fun sz => kX4_post_0 l D cy sz e0 mi vo sw hm nt nw np nc χ sa nm nd nca NL nα nau nkd nna nth nwe nso α fk fp fa ft g h κ ζ L P dl δ p k b ((cTo0 χ (κ (χ p)) np p k b) &&& (kBit (χ p) ^^^ (-1))) 0 (fun q => (sPk P q (((cTo0 χ (κ (χ p)) np p k b) &&& (kBit (χ p) ^^^ (-1))) &&& (kBit (χ p) ^^^ (-1))) 4)) hp n2 hχ h50 hP.2.2.1 hP.2.2.2.1 (fun j hj => by have := (hR.2.2.2.1 j hj).2.1; omega) hP.2.2.2.2.1 (by omega) hok hP.2.1 hLe.1 hLe.2 (RR_dn hR (hχ p hp10) (by omega)) g1 g2 g3 g4 (fun qa qn u hu => vSO_n8 _ _ _ _ _ _ _ _ _ _ _ _ _ _ _ _ _ _ _ _ _ _ _ _ _ _ _ _ _ _ _ _ _ _ _ _ _ _ _ 0 hu List.getElem?_concat_length (hχ p hp10) hχ (Or.inl rfl) (fun z => z.2.1 rfl)))) (fun r u hr => ⟨?_, fun _ => ?_, fun z => absurd hr.1 z, ?_⟩)
          · rw [mAct_0]; exact hr.1
          · show vp_updL ff 0 u.1.toInt64 = _
            rw [hr.2.1]
          · have hle : (NL ++ [u.2.2.2.1]).length = NL.length + 1 := by rw [List.length_append]; rfl
            exact CI_pos_n (sw := sw) (hm := hm) (nt := nt) (nw := nw) (sa := sa) (nm := nm) (nka := nka) (nκ := nκ) (nζ := nζ) hP hR h5 hS h7 hnc hn hp h50 (Or.inl ⟨rfl, rfl⟩) hwe h4 hr.2.2.2 hnq hr.2.2.1 (by unfold CW; rw [hle]; exact vp_pc (fun n9 hn9 h90 => by simp only [wJ, hn9, h90, Nat.add_zero, Nat.zero_add] <;> ac_rfl))
      · have hT : mPosT μ (nI p) k b (-1) = 2 := by rw [mPosT_0 hR hp k b, if_pos gq]
        rw [mPos, mPosR, hT, if_neg (by decide), if_neg (by decide)]
        have hbad : k < 0 ∨ 2 < k ∨ b < 0 ∨ ¬ b >>> (nI np &&& 31) = 0 := by
          by_cases z1 : k < 0
          · exact Or.inl z1
          · by_cases z2 : 2 < k
            · exact Or.inr (Or.inl z2)
            · by_cases z3 : b < 0
              · exact Or.inr (Or.inr (Or.inl z3))
              · exact Or.inr (Or.inr (Or.inr (fun z4 => gq ⟨z1, z2, z3, z4⟩)))
        exact vm_Qo (fun _ => (ff, w)) (fun _ => rfl) (kL_post_A l D cy sz e0 mi vo (nI p) k b (-1) oa ff w (uVP vo sw hm nt nw np nc) _ k0 _ hk0 e ⟨rfl, rfl, by decide, by decide, by decide, by decide⟩ (fun sz => kX4_post_A0 l hfl D cy sz e0 mi vo sw hm nt nw np nc p k b hp n2 hbad)) (fun r u hr => ⟨hr, fun z => absurd (hr.symm.trans z) (by decide), fun _ => rfl, CI_thr hI0 _⟩)
    · have hB := mIn_np r (n := NL.length) (by omega)
      rw [← hR.1.2.2.2.1] at hB
      rcases hB with ⟨hb, i, hi, eb⟩ | ⟨hb, hbad⟩
      · subst eb
        by_cases gq : pG np k b
        · have g0 := gq
          obtain ⟨g1, g2, g3, g4⟩ := gq
          by_cases f : NL.length = 50
          · have hT : mPosT μ (nI p) k b (nI i) = 3 := by rw [mPosT_r hR hp hi k b, if_neg (fun z => z g0), if_pos (Or.inl f)]
            rw [mPos, mPosR, hT, if_neg (by decide), if_neg (by decide)]
            exact vm_Qo (fun _ => (ff, w)) (fun _ => rfl) (kL_post_S l D cy sz e0 mi vo (nI p) k b (nI i) oa ff w (wJ (uVP vo sw hm nt nw np nc) (uLO nt nm nd NL)) (wJ (uHM cy hm χ) (wJ (uSV cy sw sa) (wJ (Kw cy nw nka nκ nζ) (wJ (La cy nd nca NL) (wJ (pool NL.length (Nc nα nau nkd nna nth nwe nso)) (wJ (pool nc (Ac α fk fp fa ft)) (fam4 (Sv cy sa g h κ ζ L P dl δ)))))))) k0 _ hk0 (e.trans (by unfold CW; exact vp_pc (fun n9 hn9 h90 => by simp only [wJ, hn9, h90, Nat.add_zero, Nat.zero_add] <;> ac_rfl))) ⟨rfl, rfl, by decide, by decide, by decide, by decide⟩ (fun sz => kX4_post_Sr l hfl D cy sz e0 mi vo sw hm nt nw np nc p nm nd NL k b i hp n2 f hi g1 g2 g3 g4)) (fun r u hr => ⟨hr, fun z => absurd (hr.symm.trans z) (by decide), fun _ => rfl, CI_thr hI0 _⟩)
          · have h50 : NL.length < 50 := by omega
            by_cases hse : kSee (κ (χ p)) (ζ (χ p)) p i (nau i) (nkd i) (nna i) = false
            · have hT : mPosT μ (nI p) k b (nI i) = 3 := by rw [mPosT_r hR hp hi k b, if_neg (fun z => z g0), if_pos (Or.inr hse)]
              rw [mPos, mPosR, hT, if_neg (by decide), if_neg (by decide)]
              exact vm_Qo (fun _ => (ff, w)) (fun _ => rfl) (kL_post_S l D cy sz e0 mi vo (nI p) k b (nI i) oa ff w (wJ (uVP vo sw hm nt nw np nc) (wJ (uHM cy hm χ) (wJ (uSV cy sw sa) (wJ (uLO nt nm nd NL) (wJ (La cy nd nca NL) (wJ (pool NL.length (Nc nα nau nkd nna nth nwe nso)) (fam4 (Sv cy sa g h κ ζ L P dl δ)))))))) (wJ (Kw cy nw nka nκ nζ) (pool nc (Ac α fk fp fa ft))) k0 _ hk0 (e.trans (by unfold CW; exact vp_pc (fun n9 hn9 h90 => by simp only [wJ, hn9, h90, Nat.add_zero, Nat.zero_add] <;> ac_rfl))) ⟨rfl, rfl, by decide, by decide, by decide, by decide⟩ (fun sz => kX4_post_S2 l hfl D cy sz e0 mi vo sw hm nt nw np nc χ sa nm nd nca NL nα nau nkd nna nth nwe nso g h κ ζ L P dl δ p k b i hp n2 hχ n7 hP.2.2.1 hP.2.2.2.1 (fun j hj => by have := (hR.2.2.2.1 j hj).2.1; omega) h50 hi hse g1 g2 g3 g4)) (fun r u hr => ⟨hr, fun z => absurd (hr.symm.trans z) (by decide), fun _ => rfl, CI_thr hI0 _⟩)
            · have hT : mPosT μ (nI p) k b (nI i) = 0 := by rw [mPosT_r hR hp hi k b, if_neg (fun z => z g0), if_neg (fun z => z.elim f hse)]
              rw [mPos, mPosR, hT, if_pos rfl, if_pos rfl]
              have hse : kSee (κ (χ p)) (ζ (χ p)) p i (nau i) (nkd i) (nna i) = true := by cases z : kSee (κ (χ p)) (ζ (χ p)) p i (nau i) (nkd i) (nna i); exact absurd z hse; rfl
              have hau := (hR.2.2.2.1 i hi).2.1
              by_cases q : k = 0 ∧ χ (nau i) = χ p
              · obtain ⟨q1, q2⟩ := q
                rw [tn_nI (by omega), en]
                have hwe := (mTo_RR hR hp k b).2 i hi
                have hpl : vq_len P 1022 := fun j hj => by rw [(hP.2.2.2.2.2 j hj).2, List.length_map]; have := (hR.2.2.2.2.2.2.2.2.1 j hj).2.2; omega
                have h4 : lo4 (((cTo0 χ (κ (χ p)) np p k b) ||| kBit (χ (nau i))) &&& (kBit (χ p) ^^^ (-1))) := lo4_and (lo4_or (cTo0_lo4 hχ _ n2 p k b) (lo4_bit (hχ _ (by omega)))) _
                refine vm_Qok (kL_post_ok l D cy sz e0 mi vo (nI p) k b (nI i) oa ff w (wJ (uVP vo sw hm nt nw np nc) (wJ (uHM cy hm χ) (wJ (uSV cy sw sa) (wJ (uLO nt nm nd NL) (wJ (La cy nd nca NL) (wJ (pool NL.length (Nc nα nau nkd nna nth nwe nso)) (wJ (pool nc (Ac α fk fp fa ft)) (fam4 (Sv cy sa g h κ ζ L P dl δ))))))))) (Kw cy nw nka nκ nζ) k0 _ hk0 (e.trans (by unfold CW; exact vp_pc (fun n9 hn9 h90 => by simp only [wJ, hn9, h90, Nat.add_zero, Nat.zero_add] <;> ac_rfl))) _ _ ⟨rfl, rfl, by decide, by decide, by decide, by decide⟩ (fun sz => kX4_post_r l D cy sz e0 mi vo sw hm nt nw np nc χ sa nm nd nca NL nα nau nkd nna nth nwe nso α fk fp fa ft g h κ ζ L P dl δ p k b i (rWe χ (χ p) p (((cTo0 χ (κ (χ p)) np p k b) ||| kBit (χ (nau i))) &&& (kBit (χ p) ^^^ (-1))) (rTo2 χ (κ (χ p)) (nau i) (χ p) p np (((cTo0 χ (κ (χ p)) np p k b) ||| kBit (χ (nau i))) &&& (kBit (χ p) ^^^ (-1))))) (rSo χ (χ p) p 0 (rTo2 χ (κ (χ p)) (nau i) (χ p) p np (((cTo0 χ (κ (χ p)) np p k b) ||| kBit (χ (nau i))) &&& (kBit (χ p) ^^^ (-1))))) (fun q => (sPk (sPk P q ((((cTo0 χ (κ (χ p)) np p k b) ||| kBit (χ (nau i))) &&& (kBit (χ p) ^^^ (-1))) &&& (kBit (χ p) ^^^ (-1))) 4) q (rTo2 χ (κ (χ p)) (nau i) (χ p) p np (((cTo0 χ (κ (χ p)) np p k b) ||| kBit (χ (nau i))) &&& (kBit (χ p) ^^^ (-1)))) 4)) hp n2 hχ h50 hP.2.2.1 hP.2.2.2.1 (fun j hj => by have := (hR.2.2.2.1 j hj).2.1; omega) hP.2.2.2.2.1 (by omega) hok hP.2.1 hLe.1 hLe.2 (RR_dn hR (hχ p hp10) (by omega)) g1 g2 g3 g4 hi hse (fun qa qn u hu => vSO_P (vSO_y8 _ _ _ _ _ _ _ _ _ _ _ _ _ _ _ _ _ _ _ _ _ _ _ _ _ _ _ _ _ _ _ _ _ _ _ _ _ _ (nau i) n2 hp10 (by omega) hχ (vq_el_new hP.2.1) (sPk_len hpl 4) hu List.getElem?_concat_length (hχ p hp10) q1 q2) (by rw [va_up_self, kLearn_hi _ (by omega)]) (by rw [va_up_self, kLearn_hi _ (by omega)])))) (fun r u hr => ⟨?_, fun _ => ?_, fun z => absurd hr.1 z, ?_⟩)
                · rw [mAct_0]; exact hr.1
                · show vp_updL ff 0 u.1.toInt64 = _
                  rw [hr.2.1]
                · have hle : (NL ++ [u.2.2.2.1]).length = NL.length + 1 := by rw [List.length_append]; rfl
                  exact CI_pos_y (sw := sw) (hm := hm) (nt := nt) (nw := nw) (sa := sa) (nm := nm) (nka := nka) (nκ := nκ) (nζ := nζ) hP hR h5 hS h7 hnc hn hp h50 (Or.inr ⟨i, hi, rfl, rfl⟩) hwe h4 hr.2.2.2 q1 (by omega) rfl q2 hLe.1 hpl hr.2.2.1 (by unfold CW; rw [hle]; exact vp_pc (fun n9 hn9 h90 => by simp only [wJ, hn9, h90, Nat.add_zero, Nat.zero_add] <;> ac_rfl))
              · have hnq : ¬ qC χ (va_up nkd NL.length k) (va_up nth NL.length (nI (nau i))) NL.length (χ p) := fun ⟨z1, t, ht, he, z2⟩ => by
                  rw [va_up_self] at he
                  rw [va_up_self] at z1
                  have h9 := congrArg tn he
                  rw [tn_nI (by omega), tn_nI (by omega)] at h9
                  exact q ⟨z1, by rw [h9]; exact z2⟩
                rw [tn_nI (by omega), en]
                have hwe := (mTo_RR hR hp k b).2 i hi
                have hpl : vq_len P 1022 := fun j hj => by rw [(hP.2.2.2.2.2 j hj).2, List.length_map]; have := (hR.2.2.2.2.2.2.2.2.1 j hj).2.2; omega
                have h4 : lo4 (((cTo0 χ (κ (χ p)) np p k b) ||| kBit (χ (nau i))) &&& (kBit (χ p) ^^^ (-1))) := lo4_and (lo4_or (cTo0_lo4 hχ _ n2 p k b) (lo4_bit (hχ _ (by omega)))) _
                refine vm_Qok (kL_post_ok l D cy sz e0 mi vo (nI p) k b (nI i) oa ff w (wJ (uVP vo sw hm nt nw np nc) (wJ (uHM cy hm χ) (wJ (uSV cy sw sa) (wJ (uLO nt nm nd NL) (wJ (La cy nd nca NL) (wJ (pool NL.length (Nc nα nau nkd nna nth nwe nso)) (wJ (pool nc (Ac α fk fp fa ft)) (fam4 (Sv cy sa g h κ ζ L P dl δ))))))))) (Kw cy nw nka nκ nζ) k0 _ hk0 (e.trans (by unfold CW; exact vp_pc (fun n9 hn9 h90 => by simp only [wJ, hn9, h90, Nat.add_zero, Nat.zero_add] <;> ac_rfl))) _ _ ⟨rfl, rfl, by decide, by decide, by decide, by decide⟩ (fun sz => kX4_post_r l D cy sz e0 mi vo sw hm nt nw np nc χ sa nm nd nca NL nα nau nkd nna nth nwe nso α fk fp fa ft g h κ ζ L P dl δ p k b i (((cTo0 χ (κ (χ p)) np p k b) ||| kBit (χ (nau i))) &&& (kBit (χ p) ^^^ (-1))) 0 (fun q => (sPk P q ((((cTo0 χ (κ (χ p)) np p k b) ||| kBit (χ (nau i))) &&& (kBit (χ p) ^^^ (-1))) &&& (kBit (χ p) ^^^ (-1))) 4)) hp n2 hχ h50 hP.2.2.1 hP.2.2.2.1 (fun j hj => by have := (hR.2.2.2.1 j hj).2.1; omega) hP.2.2.2.2.1 (by omega) hok hP.2.1 hLe.1 hLe.2 (RR_dn hR (hχ p hp10) (by omega)) g1 g2 g3 g4 hi hse (fun qa qn u hu => vSO_n8 _ _ _ _ _ _ _ _ _ _ _ _ _ _ _ _ _ _ _ _ _ _ _ _ _ _ _ _ _ _ _ _ _ _ _ _ _ _ _ (nau i) hu List.getElem?_concat_length (hχ p hp10) hχ (Or.inr ⟨rfl, by omega⟩) (fun z => q ⟨z.1, z.2.2⟩)))) (fun r u hr => ⟨?_, fun _ => ?_, fun z => absurd hr.1 z, ?_⟩)
                · rw [mAct_0]; exact hr.1
                · show vp_updL ff 0 u.1.toInt64 = _
                  rw [hr.2.1]
                · have hle : (NL ++ [u.2.2.2.1]).length = NL.length + 1 := by rw [List.length_append]; rfl
                  exact CI_pos_n (sw := sw) (hm := hm) (nt := nt) (nw := nw) (sa := sa) (nm := nm) (nka := nka) (nκ := nκ) (nζ := nζ) hP hR h5 hS h7 hnc hn hp h50 (Or.inr ⟨i, hi, rfl, rfl⟩) hwe h4 hr.2.2.2 hnq hr.2.2.1 (by unfold CW; rw [hle]; exact vp_pc (fun n9 hn9 h90 => by simp only [wJ, hn9, h90, Nat.add_zero, Nat.zero_add] <;> ac_rfl))
        · have hT : mPosT μ (nI p) k b (nI i) = 2 := by rw [mPosT_r hR hp hi k b, if_pos gq]
          rw [mPos, mPosR, hT, if_neg (by decide), if_neg (by decide)]
          have hbad : k < 0 ∨ 2 < k ∨ b < 0 ∨ ¬ b >>> (nI np &&& 31) = 0 := by
            by_cases z1 : k < 0
            · exact Or.inl z1
            · by_cases z2 : 2 < k
              · exact Or.inr (Or.inl z2)
              · by_cases z3 : b < 0
                · exact Or.inr (Or.inr (Or.inl z3))
                · exact Or.inr (Or.inr (Or.inr (fun z4 => gq ⟨z1, z2, z3, z4⟩)))
          exact vm_Qo (fun _ => (ff, w)) (fun _ => rfl) (kL_post_A l D cy sz e0 mi vo (nI p) k b (nI i) oa ff w (wJ (uVP vo sw hm nt nw np nc) (uLO nt nm nd NL)) (wJ (uHM cy hm χ) (wJ (uSV cy sw sa) (wJ (Kw cy nw nka nκ nζ) (wJ (La cy nd nca NL) (wJ (pool NL.length (Nc nα nau nkd nna nth nwe nso)) (wJ (pool nc (Ac α fk fp fa ft)) (fam4 (Sv cy sa g h κ ζ L P dl δ)))))))) k0 _ hk0 (e.trans (by unfold CW; exact vp_pc (fun n9 hn9 h90 => by simp only [wJ, hn9, h90, Nat.add_zero, Nat.zero_add] <;> ac_rfl))) ⟨rfl, rfl, by decide, by decide, by decide, by decide⟩ (fun sz => kX4_post_Ar l hfl D cy sz e0 mi vo sw hm nt nw np nc p nm nd NL k b i hp n2 n7 hi hbad)) (fun r u hr => ⟨hr, fun z => absurd (hr.symm.trans z) (by decide), fun _ => rfl, CI_thr hI0 _⟩)
      · have hT : mPosT μ (nI p) k b r = 1 := by rw [mPosT, if_pos (Or.inr ⟨hr9, hb⟩)]
        rw [mPos, mPosR, hT, if_neg (by decide), if_neg (by decide)]
        rw [hR.1.2.2.2.1] at hbad
        exact vm_Qo (fun _ => (ff, w)) (fun _ => rfl) (kL_post_O l D cy sz e0 mi vo (nI p) k b r oa ff w (wJ (uVP vo sw hm nt nw np nc) (uLO nt nm nd NL)) (wJ (uHM cy hm χ) (wJ (uSV cy sw sa) (wJ (Kw cy nw nka nκ nζ) (wJ (La cy nd nca NL) (wJ (pool NL.length (Nc nα nau nkd nna nth nwe nso)) (wJ (pool nc (Ac α fk fp fa ft)) (fam4 (Sv cy sa g h κ ζ L P dl δ)))))))) k0 _ hk0 (e.trans (by unfold CW; exact vp_pc (fun n9 hn9 h90 => by simp only [wJ, hn9, h90, Nat.add_zero, Nat.zero_add] <;> ac_rfl))) ⟨rfl, rfl, by decide, by decide, by decide, by decide⟩ (fun sz => kX4_post_O2 l hfl D cy sz e0 mi vo sw hm nt nw np nc p nm nd NL k b r hp n2 hr9 hbad)) (fun r u hr => ⟨hr, fun z => absurd (hr.symm.trans z) (by decide), fun _ => rfl, CI_thr hI0 _⟩)
  · have hT : mPosT μ a k b r = 1 := by rw [mPosT, if_pos (Or.inl ha)]
    rw [mPos, mPosR, hT, if_neg (by decide), if_neg (by decide)]
    rw [hR.1.1.1] at hbad
    exact vm_Qo (fun _ => (ff, w)) (fun _ => rfl) (kL_post_O l D cy sz e0 mi vo a k b r oa ff w (uVP vo sw hm nt nw np nc) _ k0 _ hk0 e ⟨rfl, rfl, by decide, by decide, by decide, by decide⟩ (fun sz => kX4_post_O1 l hfl D cy sz e0 mi vo sw hm nt nw np nc a k b r hbad)) (fun r u hr => ⟨hr, fun z => absurd (hr.symm.trans z) (by decide), fun _ => rfl, CI_thr hI0 _⟩)
