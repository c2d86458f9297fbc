/-! sees, home at the law's level -/
theorem kM_sees (l : Launch) (hfl : l.stackTraces = false) (D : va_G) (cy : Nat → ClassId) (sz e0 mi vo n : Nat) (μ : Nat → Nat → Int32) (w : va_W) (a : Int32) (b : Int32) (oa : Nat) (ff : Nat → Int64) (hI : CI cy e0 vo n μ w) (hn : n < 512) : Met l yL_sees wsL_sees ({ frames := 13, cells := 12, slots := 12351, locals := 345 }) (vk_P D cy e0 mi [.ref vo, .int a, .int b, .ref oa] sz (wJ (uOut cy oa ff) w)) (vg_Qi (S := (Nat → Int64) × va_W) D sz (wJ (uOut cy oa ff) w) (PO cy e0 vo (n + 1) (mSee μ a b) ff (bI (mSeeR μ a b))) (fun u => wJ (uOut cy oa u.1) u.2)) 12 12351 (va_A (wJ (uOut cy oa ff) w) sz) := by
  have hI0 := hI
  obtain ⟨sw, hm, nt, nw, np, nc, χ, sa, nm, nd, nca, NL, nka, nκ, nζ, nα, nau, nkd, nna, nth, nwe, nso, α, fk, fp, fa, ft, g, h, κ, ζ, L, P, lI, pI, dl, δ, e, hP, hR, h5, hS, h7, hnc⟩ := hI
  obtain ⟨k0, hk0⟩ := List.mem_iff_getElem?.mp (e.mem_iff.mpr (show ((vo, .inr (5, [.ref sw, .ref hm, .ref nt, .ref nw, .int (nI np), .int (nI nc)])) : Nat × va_E) ∈ CW cy vo sw hm nt nw np nc χ sa nm nd nca NL nka nκ nζ nα nau nkd nna nth nwe nso α fk fp fa ft g h κ ζ L P dl δ from List.mem_cons_self))
  have n2 := hR.1.1.2
  have hχ : ∀ j, j < 10 → χ j < 4 := fun j hj => (hR.1.2.1 j hj).2
  have hl := RR_len hR α (by omega)
  have hok := hP.1
  have hLe : vq_len L 1023 ∧ vq_len P 1023 := ⟨fun i hi => by rw [(hP.2.2.2.2.2 i hi).1]; exact hl.1 i hi, fun i hi => by rw [(hP.2.2.2.2.2 i hi).2]; exact hl.2 i hi⟩
  have n7 := hR.1.2.2.2.2
  have hA := mIn_np a (n := np) (by omega)
  have hB := mIn_np b (n := NL.length) (by omega)
  rw [← hR.1.1.1] at hA
  rw [← hR.1.2.2.2.1] at hB
  rcases hA with ⟨ha, p, hp, ea⟩ | ⟨ha, hbad⟩
  · subst ea
    rcases hB with ⟨hb, i, hi, eb⟩ | ⟨hb, hbad⟩
    · subst eb
      have hT : mSeeT μ (nI p) (nI i) = true := by rw [mSeeT, ha, hb]; rfl
      rw [mSee, mSeeR, hT, if_pos rfl, Bool.true_and, tn_nI (by omega), tn_nI (by omega), mSeen_RR hR hp hi]
      have hpe : w.Perm (wJ (wJ (uVP vo sw hm nt nw np nc) (wJ (uHM cy hm χ) (wJ (uSV cy sw sa) (wJ (uLO nt nm nd NL) (wJ (La cy nd nca NL) (wJ (pool NL.length (Nc nα nau nkd nna nth nwe nso)) (fam4 (Sv cy sa g h κ ζ L P dl δ)))))))) (wJ (Kw cy nw nka nκ nζ) (pool nc (Ac α fk fp fa ft)))) := e.trans (by unfold CW; exact vp_pc (fun n9 hn9 h90 => by simp only [wJ, hn9, h90, Nat.add_zero, Nat.zero_add] <;> ac_rfl))
      refine vm_Qok (kL_sees_ok l D cy sz e0 mi vo (nI p) (nI i) oa ff w (wJ (uVP vo sw hm nt nw np nc) (wJ (uHM cy hm χ) (wJ (uSV cy sw sa) (wJ (uLO nt nm nd NL) (wJ (La cy nd nca NL) (wJ (pool NL.length (Nc nα nau nkd nna nth nwe nso)) (fam4 (Sv cy sa g h κ ζ L P dl δ)))))))) (wJ (Kw cy nw nka nκ nζ) (pool nc (Ac α fk fp fa ft))) k0 _ hk0 hpe _ _ ⟨rfl, rfl, by decide, by decide, by decide, by decide⟩ (fun r u z => by rw [z]; cases (kSee (κ (χ p)) (ζ (χ p)) p i (nau i) (nkd i) (nna i)); exact Or.inl rfl; exact Or.inr rfl) (fun sz => kX4_sees l D cy sz e0 mi vo sw hm nt nw np nc χ sa nm nd nca NL nα nau nkd nna nth nwe nso g h κ ζ L P dl δ p i hp n2 hχ n7 hP.2.2.1 hP.2.2.2.1 (fun j hj => by have := (hR.2.2.2.1 j hj).2.1; omega) hi)) (fun r u hr => ⟨hr.1, fun _ => ?_, fun z => absurd hr.1 z, CI_perm (CI_thr hI0 _) hpe.symm⟩)
      show vp_updL ff 0 u.1.toInt64 = _
      rw [hr.2]
    · have hT : mSeeT μ (nI p) b = false := by rw [mSeeT, ha, hb]; rfl
      rw [mSee, hT, if_neg (by decide)]
      rw [hR.1.2.2.2.1] at hbad
      exact vm_Qo (fun _ => (ff, w)) (fun _ => rfl) (kL_sees_O l D cy sz e0 mi vo (nI p) b oa ff w (wJ (uVP vo sw hm nt nw np nc) (uLO nt nm nd NL)) (wJ (uHM cy hm χ) (wJ (uSV cy sw sa) (wJ (Kw cy nw nka nκ nζ) (wJ (La cy nd nca NL) (wJ (pool NL.length (Nc nα nau nkd nna nth nwe nso)) (wJ (pool nc (Ac α fk fp fa ft)) (fam4 (Sv cy sa g h κ ζ L P dl δ)))))))) k0 _ hk0 (e.trans (by unfold CW; exact vp_pc (fun n9 hn9 h90 => by simp only [wJ, hn9, h90, Nat.add_zero, Nat.zero_add] <;> ac_rfl))) ⟨rfl, rfl, by decide, by decide, by decide, by decide⟩ (fun sz => kX4_sees_O2 l hfl D cy sz e0 mi vo sw hm nt nw np nc p nm nd NL b hp n2 hbad)) (fun r u hr => ⟨hr, fun z => absurd (hr.symm.trans z) (by decide), fun _ => rfl, CI_thr hI0 _⟩)
  · have hT : mSeeT μ a b = false := by rw [mSeeT, ha]; rfl
    rw [mSee, hT, if_neg (by decide)]
    rw [hR.1.1.1] at hbad
    exact vm_Qo (fun _ => (ff, w)) (fun _ => rfl) (kL_sees_O l D cy sz e0 mi vo a b oa ff w (uVP vo sw hm nt nw np nc) _ k0 _ hk0 e ⟨rfl, rfl, by decide, by decide, by decide, by decide⟩ (fun sz => kX4_sees_O1 l hfl D cy sz e0 mi vo sw hm nt nw np nc a b hbad)) (fun r u hr => ⟨hr, fun z => absurd (hr.symm.trans z) (by decide), fun _ => rfl, CI_thr hI0 _⟩)
