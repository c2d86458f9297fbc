/-! person, repeat, seesAnew at the law's level -/
theorem kM_person (l : Launch) (hfl : l.stackTraces = false) (D : va_G) (cy : Nat → ClassId) (sz e0 mi vo n : Nat) (μ : Nat → Nat → Int32) (w : va_W) (v : Int32) (oa : Nat) (ff : Nat → Int64) (hI : CI cy e0 vo n μ w) (hn : n < 512) : Met l yL_person wsL_person ({ frames := 13, cells := 12, slots := 12351, locals := 345 }) (vk_P D cy e0 mi [.ref vo, .int v, .ref oa] sz (wJ (uOut cy oa ff) w)) (vg_Qi (S := (Nat → Int64) × va_W) D sz (wJ (uOut cy oa ff) w) (PO cy e0 vo (n + 1) (mPer μ v) ff (mPerR μ v)) (fun u => wJ (uOut cy oa u.1) u.2)) 12 12351 (va_A (wJ (uOut cy oa ff) w) sz) := by
  have hI0 := hI
  obtain ⟨sw, hm, nt, nw, np, nc, χ, sa, nm, nd, nca, NL, nka, nκ, nζ, nα, nau, nkd, nna, nth, nwe, nso, α, fk, fp, fa, ft, g, h, κ, ζ, L, P, lI, pI, dl, δ, e, hP, hR, h5, hS, h7, hnc⟩ := hI
  obtain ⟨k0, hk0⟩ := List.mem_iff_getElem?.mp (e.mem_iff.mpr (show ((vo, .inr (5, [.ref sw, .ref hm, .ref nt, .ref nw, .int (nI np), .int (nI nc)])) : Nat × va_E) ∈ CW cy vo sw hm nt nw np nc χ sa nm nd nca NL nka nκ nζ nα nau nkd nna nth nwe nso α fk fp fa ft g h κ ζ L P dl δ from List.mem_cons_self))
  have n2 := hR.1.1.2
  have hχ : ∀ j, j < 10 → χ j < 4 := fun j hj => (hR.1.2.1 j hj).2
  have hl := RR_len hR α (by omega)
  have hok := hP.1
  have hLe : vq_len L 1023 ∧ vq_len P 1023 := ⟨fun i hi => by rw [(hP.2.2.2.2.2 i hi).1]; exact hl.1 i hi, fun i hi => by rw [(hP.2.2.2.2.2 i hi).2]; exact hl.2 i hi⟩
  rcases mIn_4 v with ⟨hv, s, hs, ev⟩ | ⟨hv, hbad⟩
  · subst ev
    obtain ⟨m1, m2⟩ := mPer_RR hR hs
    rw [m1, m2]
    by_cases c : np = 10
    · rw [if_pos c, if_pos c]
      subst c
      exact vm_Qo (fun _ => (ff, w)) (fun _ => rfl) (kL_person_S l D cy sz e0 mi vo (nI s) oa ff w (uVP vo sw hm nt nw 10 nc) _ k0 _ hk0 e ⟨rfl, rfl, by decide, by decide, by decide, by decide⟩ (fun sz => kX4_person_S l hfl D cy sz e0 mi vo sw hm nt nw nc s hs)) (fun r u hr => ⟨hr, fun z => absurd (hr.symm.trans z) (by decide), fun _ => rfl, CI_thr hI0 _⟩)
    · rw [if_neg c, if_neg c]
      refine vm_Qok (kL_person_ok l D cy sz e0 mi vo (nI s) oa ff w (wJ (uVP vo sw hm nt nw np nc) (uHM cy hm χ)) (wJ (uSV cy sw sa) (wJ (uLO nt nm nd NL) (wJ (Kw cy nw nka nκ nζ) (wJ (La cy nd nca NL) (wJ (pool NL.length (Nc nα nau nkd nna nth nwe nso)) (wJ (pool nc (Ac α fk fp fa ft)) (fam4 (Sv cy sa g h κ ζ L P dl δ)))))))) k0 _ hk0 (e.trans (by unfold CW; exact vp_pc (fun n9 hn9 h90 => by simp only [wJ, hn9, h90, Nat.add_zero, Nat.zero_add] <;> ac_rfl))) _ _ ⟨rfl, rfl, by decide, by decide, by decide, by decide⟩ (fun sz => kX4_person l D cy sz e0 mi vo sw hm nt nw np nc χ s hs (by omega))) (fun r u hr => ⟨hr.1, fun _ => ?_, fun z => absurd hr.1 z, ?_⟩)
      · show vp_updL ff 0 u.1.toInt64 = _
        rw [hr.2]
      · obtain ⟨r0, r1, r2, r3, r4, r5, r6, r7⟩ := RR_per (RR_0 hR (fun _ => 0)) hs (by omega)
        exact ⟨sw, hm, nt, nw, np + 1, nc, va_up χ np s, sa, nm, nd, nca, NL, nka, nκ, nζ, nα, nau, nkd, nna, nth, nwe, nso, α, fk, fp, fa, ft, g, h, κ, ζ, L, P, lI, pI, dl, δ, (by unfold CW; exact vp_pc (fun n9 hn9 h90 => by simp only [wJ, hn9, h90, Nat.add_zero, Nat.zero_add] <;> ac_rfl)), hP, ⟨r0, r1, r2, r3, r4, r5, r6, q6_mono r7 (by omega)⟩, b5_rows h5 rfl, bS_rows hS rfl rfl, h7, by omega⟩
  · have hT : mPer μ v = va_up μ 0 (fun _ => 1) := by rw [mPer, if_pos hv]
    rw [hT]
    exact vm_Qo (fun _ => (ff, w)) (fun _ => rfl) (kL_person_O l D cy sz e0 mi vo v oa ff w ([] : va_W) w k0 _ hk0 (w_nil w) ⟨rfl, rfl, by decide, by decide, by decide, by decide⟩ (fun sz => kX4_person_O l hfl D cy sz e0 mi vo v hbad)) (fun r u hr => ⟨hr, fun z => absurd (hr.symm.trans z) (by decide), fun _ => rfl, CI_thr hI0 _⟩)
theorem kM_repeat (l : Launch) (hfl : l.stackTraces = false) (D : va_G) (cy : Nat → ClassId) (sz e0 mi vo n : Nat) (μ : Nat → Nat → Int32) (w : va_W) (v : Int32) (oa : Nat) (ff : Nat → Int64) (hI : CI cy e0 vo n μ w) (hn : n < 512) : Met l yL_repeat wsL_repeat ({ frames := 13, cells := 12, slots := 12351, locals := 345 }) (vk_P D cy e0 mi [.ref vo, .int v, .ref oa] sz (wJ (uOut cy oa ff) w)) (vg_Qi (S := (Nat → Int64) × va_W) D sz (wJ (uOut cy oa ff) w) (PO cy e0 vo (n + 1) (mRep μ v) ff (mRepR μ v)) (fun u => wJ (uOut cy oa u.1) u.2)) 12 12351 (va_A (wJ (uOut cy oa ff) w) sz) := by
  have hI0 := hI
  obtain ⟨sw, hm, nt, nw, np, nc, χ, sa, nm, nd, nca, NL, nka, nκ, nζ, nα, nau, nkd, nna, nth, nwe, nso, α, fk, fp, fa, ft, g, h, κ, ζ, L, P, lI, pI, dl, δ, e, hP, hR, h5, hS, h7, hnc⟩ := hI
  obtain ⟨k0, hk0⟩ := List.mem_iff_getElem?.mp (e.mem_iff.mpr (show ((vo, .inr (5, [.ref sw, .ref hm, .ref nt, .ref nw, .int (nI np), .int (nI nc)])) : Nat × va_E) ∈ CW cy vo sw hm nt nw np nc χ sa nm nd nca NL nka nκ nζ nα nau nkd nna nth nwe nso α fk fp fa ft g h κ ζ L P dl δ from List.mem_cons_self))
  have n2 := hR.1.1.2
  have hχ : ∀ j, j < 10 → χ j < 4 := fun j hj => (hR.1.2.1 j hj).2
  have hl := RR_len hR α (by omega)
  have hok := hP.1
  have hLe : vq_len L 1023 ∧ vq_len P 1023 := ⟨fun i hi => by rw [(hP.2.2.2.2.2 i hi).1]; exact hl.1 i hi, fun i hi => by rw [(hP.2.2.2.2.2 i hi).2]; exact hl.2 i hi⟩
  rcases mIn_4 v with ⟨hv, s, hs, ev⟩ | ⟨hv, hbad⟩
  · subst ev
    obtain ⟨m1, m2, m3⟩ := mRep_RR hR hs (by omega)
    have gg := hR.2.2.2.2.2.2.2.2.1 s hs
    rw [m1]
    by_cases c : dl s = 0
    · rw [m2 c]
      have hpe : w.Perm (wJ (wJ (uVP vo sw hm nt nw np nc) (wJ (uSV cy sw sa) (fam4 (Sv cy sa g h κ ζ L P dl δ)))) (wJ (uHM cy hm χ) (wJ (uLO nt nm nd NL) (wJ (Kw cy nw nka nκ nζ) (wJ (La cy nd nca NL) (wJ (pool NL.length (Nc nα nau nkd nna nth nwe nso)) (pool nc (Ac α fk fp fa ft)))))))) := e.trans (by unfold CW; exact vp_pc (fun n9 hn9 h90 => by simp only [wJ, hn9, h90, Nat.add_zero, Nat.zero_add] <;> ac_rfl))
      refine vm_Qok (kL_repeat_ok l D cy sz e0 mi vo (nI s) oa ff w (wJ (uVP vo sw hm nt nw np nc) (wJ (uSV cy sw sa) (fam4 (Sv cy sa g h κ ζ L P dl δ)))) (wJ (uHM cy hm χ) (wJ (uLO nt nm nd NL) (wJ (Kw cy nw nka nκ nζ) (wJ (La cy nd nca NL) (wJ (pool NL.length (Nc nα nau nkd nna nth nwe nso)) (pool nc (Ac α fk fp fa ft))))))) k0 _ hk0 hpe _ _ ⟨rfl, rfl, by decide, by decide, by decide, by decide⟩ (fun sz => kX4_repeat_no l D cy sz e0 mi vo sw hm nt nw np nc sa g h κ ζ L P dl δ s hs c)) (fun r u hr => ⟨hr.1, fun _ => ?_, fun z => absurd hr.1 z, CI_perm (CI_thr hI0 _) hpe.symm⟩)
      show vp_updL ff 0 u.1.toInt64 = _
      rw [hr.2]
    · obtain ⟨a, ha⟩ : ∃ a, (pI s)[dl s - 1]? = some a := ⟨_, List.getElem?_eq_getElem (show dl s - 1 < (pI s).length by have := gg.2.1; omega)⟩
      obtain ⟨y1, y2⟩ := m3 a (by omega) ha
      have y3 : (P s)[dl s - 1]? = some (α a) := by rw [(hP.2.2.2.2.2 s hs).2, List.getElem?_map, ha]; rfl
      rw [y1]
      have hpe : w.Perm (wJ (wJ (uVP vo sw hm nt nw np nc) (wJ (uHM cy hm χ) (wJ (uSV cy sw sa) (wJ ([] : va_W) (wJ (pool nc (Ac α fk fp fa ft)) (fam4 (Sv cy sa g h κ ζ L P dl δ))))))) (wJ (uLO nt nm nd NL) (wJ (Kw cy nw nka nκ nζ) (wJ (La cy nd nca NL) (pool NL.length (Nc nα nau nkd nna nth nwe nso)))))) := e.trans (by unfold CW; exact vp_pc (fun n9 hn9 h90 => by simp only [wJ, hn9, h90, Nat.add_zero, Nat.zero_add] <;> ac_rfl))
      refine vm_Qok (kL_repeat_ok l D cy sz e0 mi vo (nI s) oa ff w (wJ (uVP vo sw hm nt nw np nc) (wJ (uHM cy hm χ) (wJ (uSV cy sw sa) (wJ ([] : va_W) (wJ (pool nc (Ac α fk fp fa ft)) (fam4 (Sv cy sa g h κ ζ L P dl δ))))))) (wJ (uLO nt nm nd NL) (wJ (Kw cy nw nka nκ nζ) (wJ (La cy nd nca NL) (pool NL.length (Nc nα nau nkd nna nth nwe nso))))) k0 _ hk0 hpe _ _ ⟨rfl, rfl, by decide, by decide, by decide, by decide⟩ (fun sz => kX4_repeat_old l D cy sz e0 mi vo sw hm nt nw np nc χ sa α fk fp fa ft g h κ ζ L P dl δ s a ([] : va_W) hs hok y2 (by omega) (by omega) (by have := gg.2.1; have := gg.2.2; omega) y3 (h7 s hs (dl s - 1) a (by omega) ha))) (fun r u hr => ⟨hr.1, fun _ => ?_, fun z => absurd hr.1 z, CI_perm (CI_thr hI0 _) hpe.symm⟩)
      show vp_updL ff 0 u.1.toInt64 = _
      rw [hr.2]
  · have hT : mRep μ v = va_up μ 0 (fun _ => 1) := by rw [mRep, if_pos hv]
    rw [hT]
    exact vm_Qo (fun _ => (ff, w)) (fun _ => rfl) (kL_repeat_O l D cy sz e0 mi vo v oa ff w ([] : va_W) w k0 _ hk0 (w_nil w) ⟨rfl, rfl, by decide, by decide, by decide, by decide⟩ (fun sz => kX4_repeat_O l hfl D cy sz e0 mi vo v hbad)) (fun r u hr => ⟨hr, fun z => absurd (hr.symm.trans z) (by decide), fun _ => rfl, CI_thr hI0 _⟩)
theorem kM_seesAnew (l : Launch) (hfl : l.stackTraces = false) (D : va_G) (cy : Nat → ClassId) (sz e0 mi vo n : Nat) (μ : Nat → Nat → Int32) (w : va_W) (a : Int32) (b : Int32) (oa : Nat) (ff : Nat → Int64) (hI : CI cy e0 vo n μ w) (hn : n < 512) : Met l yL_seesAnew wsL_seesAnew ({ frames := 13, cells := 12, slots := 12351, locals := 345 }) (vk_P D cy e0 mi [.ref vo, .int a, .int b, .ref oa] sz (wJ (uOut cy oa ff) w)) (vg_Qi (S := (Nat → Int64) × va_W) D sz (wJ (uOut cy oa ff) w) (PO cy e0 vo (n + 1) (mSee μ a b) ff (bI (mSeeR μ a b))) (fun u => wJ (uOut cy oa u.1) u.2)) 12 12351 (va_A (wJ (uOut cy oa ff) w) sz) := by
  have hI0 := hI
  obtain ⟨sw, hm, nt, nw, np, nc, χ, sa, nm, nd, nca, NL, nka, nκ, nζ, nα, nau, nkd, nna, nth, nwe, nso, α, fk, fp, fa, ft, g, h, κ, ζ, L, P, lI, pI, dl, δ, e, hP, hR, h5, hS, h7, hnc⟩ := hI
  obtain ⟨k0, hk0⟩ := List.mem_iff_getElem?.mp (e.mem_iff.mpr (show ((vo, .inr (5, [.ref sw, .ref hm, .ref nt, .ref nw, .int (nI np), .int (nI nc)])) : Nat × va_E) ∈ CW cy vo sw hm nt nw np nc χ sa nm nd nca NL nka nκ nζ nα nau nkd nna nth nwe nso α fk fp fa ft g h κ ζ L P dl δ from List.mem_cons_self))
  have n2 := hR.1.1.2
  have hχ : ∀ j, j < 10 → χ j < 4 := fun j hj => (hR.1.2.1 j hj).2
  have hl := RR_len hR α (by omega)
  have hok := hP.1
  have hLe : vq_len L 1023 ∧ vq_len P 1023 := ⟨fun i hi => by rw [(hP.2.2.2.2.2 i hi).1]; exact hl.1 i hi, fun i hi => by rw [(hP.2.2.2.2.2 i hi).2]; exact hl.2 i hi⟩
  have n7 := hR.1.2.2.2.2
  have hA := mIn_np a (n := np) (by omega)
  have hB := mIn_np b (n := NL.length) (by omega)
  rw [← hR.1.1.1] at hA
  rw [← hR.1.2.2.2.1] at hB
  rcases hA with ⟨ha, p, hp, ea⟩ | ⟨ha, hbad⟩
  · subst ea
    rcases hB with ⟨hb, i, hi, eb⟩ | ⟨hb, hbad⟩
    · subst eb
      have hT : mSeeT μ (nI p) (nI i) = true := by rw [mSeeT, ha, hb]; rfl
      have hD := (hR.2.2.2.2.2.2.1 _ (hχ p (by omega))).2.2.2.1
      have hlI : ∀ x ∈ lI (χ p), x < nc := fun x hx => ((hD.2.2.2 x).mp hx).1
      have hln := nodup_len nc (lI (χ p)) hD.2.2.1 hlI
      rw [mSee, mSeeR, hT, if_pos rfl, Bool.true_and, tn_nI (by omega), tn_nI (by omega), ← anew_RR hR nκ nζ hp hi]
      have hpe : w.Perm (wJ (wJ (uVP vo sw hm nt nw np nc) (wJ (uHM cy hm χ) (wJ (uSV cy sw sa) (wJ (uLO nt nm nd NL) (wJ (Kw cy nw nka nκ nζ) (wJ (La cy nd nca NL) (wJ (pool NL.length (Nc nα nau nkd nna nth nwe nso)) (wJ (pool nc (Ac α fk fp fa ft)) (fam4 (Sv cy sa g h κ ζ L P dl δ)))))))))) ([] : va_W)) := e.trans (by unfold CW; exact vp_pc (fun n9 hn9 h90 => by simp only [wJ, hn9, h90, Nat.add_zero, Nat.zero_add] <;> ac_rfl))
      refine vm_Qok (kL_seesAnew_ok l D cy sz e0 mi vo (nI p) (nI i) oa ff w (wJ (uVP vo sw hm nt nw np nc) (wJ (uHM cy hm χ) (wJ (uSV cy sw sa) (wJ (uLO nt nm nd NL) (wJ (Kw cy nw nka nκ nζ) (wJ (La cy nd nca NL) (wJ (pool NL.length (Nc nα nau nkd nna nth nwe nso)) (wJ (pool nc (Ac α fk fp fa ft)) (fam4 (Sv cy sa g h κ ζ L P dl δ)))))))))) ([] : va_W) k0 _ hk0 hpe _ _ ⟨rfl, rfl, by decide, by decide, by decide, by decide⟩ (fun r u z => by rw [z]; cases (kSee (kRep fk fp fa ft (kFg nκ 10) (lI (χ p))) (zRep fk fp fa (zFg0 nζ) (lI (χ p))) p i (nau i) (nkd i) (nna i)); exact Or.inl rfl; exact Or.inr rfl) (fun sz => kX4_seesAnew l D cy sz e0 mi vo sw hm nt nw np nc χ sa nm nd nca NL nα nau nkd nna nth nwe nso α fk fp fa ft g h κ ζ L P dl δ p i nka nκ nζ (lI (χ p)) hp n2 hχ n7 hP.2.2.1 hP.2.2.2.1 (fun j hj => by have := (hR.2.2.2.1 j hj).2.1; omega) hi hok (hP.2.2.2.2.2 _ (hχ p (by omega))).1 hlI (by omega) (fun j hj => ⟨(hR.2.2.1 j hj).2.1, by have := (hR.2.2.1 j hj).2.2.1; omega, fun q => by have := (hR.2.2.1 j hj).2.2.2.1 q; omega⟩))) (fun r u hr => ⟨hr.1, fun _ => ?_, fun z => absurd hr.1 z, ?_⟩)
      · show vp_updL ff 0 u.1.toInt64 = _
        rw [hr.2]
      · obtain ⟨r0, r1, r2, r3, r4, r5, r6, r7⟩ := RR_0 hR (fun _ => 0)
        exact ⟨sw, hm, nt, nw, np, nc, χ, sa, nm, nd, nca, NL, nka, kRep fk fp fa ft (kFg nκ 10) (lI (χ p)), zRep fk fp fa (zFg0 nζ) (lI (χ p)), nα, nau, nkd, nna, nth, nwe, nso, α, fk, fp, fa, ft, g, h, κ, ζ, L, P, lI, pI, dl, δ, (by unfold CW; exact vp_pc (fun n9 hn9 h90 => by simp only [wJ, hn9, h90, Nat.add_zero, Nat.zero_add] <;> ac_rfl)), hP, ⟨r0, r1, r2, r3, r4, r5, r6, q6_mono r7 (by omega)⟩, b5_rows h5 rfl, bS_rows hS rfl rfl, h7, by omega⟩
    · have hT : mSeeT μ (nI p) b = false := by rw [mSeeT, ha, hb]; rfl
      rw [mSee, hT, if_neg (by decide)]
      rw [hR.1.2.2.2.1] at hbad
      exact vm_Qo (fun _ => (ff, w)) (fun _ => rfl) (kL_seesAnew_O l D cy sz e0 mi vo (nI p) b oa ff w (wJ (uVP vo sw hm nt nw np nc) (uLO nt nm nd NL)) (wJ (uHM cy hm χ) (wJ (uSV cy sw sa) (wJ (Kw cy nw nka nκ nζ) (wJ (La cy nd nca NL) (wJ (pool NL.length (Nc nα nau nkd nna nth nwe nso)) (wJ (pool nc (Ac α fk fp fa ft)) (fam4 (Sv cy sa g h κ ζ L P dl δ)))))))) k0 _ hk0 (e.trans (by unfold CW; exact vp_pc (fun n9 hn9 h90 => by simp only [wJ, hn9, h90, Nat.add_zero, Nat.zero_add] <;> ac_rfl))) ⟨rfl, rfl, by decide, by decide, by decide, by decide⟩ (fun sz => kX4_seesAnew_O2 l hfl D cy sz e0 mi vo sw hm nt nw np nc p nm nd NL b hp n2 hbad)) (fun r u hr => ⟨hr, fun z => absurd (hr.symm.trans z) (by decide), fun _ => rfl, CI_thr hI0 _⟩)
  · have hT : mSeeT μ a b = false := by rw [mSeeT, ha]; rfl
    rw [mSee, hT, if_neg (by decide)]
    rw [hR.1.1.1] at hbad
    exact vm_Qo (fun _ => (ff, w)) (fun _ => rfl) (kL_seesAnew_O l D cy sz e0 mi vo a b oa ff w (uVP vo sw hm nt nw np nc) _ k0 _ hk0 e ⟨rfl, rfl, by decide, by decide, by decide, by decide⟩ (fun sz => kX4_seesAnew_O1 l hfl D cy sz e0 mi vo sw hm nt nw np nc a b hbad)) (fun r u hr => ⟨hr, fun z => absurd (hr.symm.trans z) (by decide), fun _ => rfl, CI_thr hI0 _⟩)
