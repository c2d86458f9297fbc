/-! ofServer, person, repeat at the law's level -/
theorem kM_ofServer (l : Launch) (hfl : l.stackTraces = false) (D : va_G) (cy : Nat → ClassId) (sz e0 mi vo n : Nat) (μ : Nat → Nat → Int32) (w : va_W) (v : Int32) (k : Int32) (oa : Nat) (ff : Nat → Int64) (hI : CI cy e0 vo n μ w) (hn : n < 512) : Met l yL_ofServer wsL_ofServer ({ frames := 13, cells := 12, slots := 12351, locals := 345 }) (vk_P D cy e0 mi [.ref vo, .int v, .int k, .ref oa] sz (wJ (uOut cy oa ff) w)) (vg_Qi (S := (Nat → Int64) × va_W) D sz (wJ (uOut cy oa ff) w) (PO cy e0 vo (n + 1) (va_up μ 0 (fun _ => mOfsT μ v k)) ff (mOfsR μ v k)) (fun u => wJ (uOut cy oa u.1) u.2)) 12 12351 (va_A (wJ (uOut cy oa ff) w) sz) := by
  have hI0 := hI
  obtain ⟨sw, hm, nt, nw, np, nc, χ, sa, nm, nd, nca, NL, nka, nκ, nζ, nα, nau, nkd, nna, nth, nwe, nso, α, fk, fp, fa, ft, g, h, κ, ζ, L, P, lI, pI, dl, δ, e, hP, hR, h5, hS, h7, hnc⟩ := hI
  obtain ⟨k0, hk0⟩ := List.mem_iff_getElem?.mp (e.mem_iff.mpr (show ((vo, .inr (5, [.ref sw, .ref hm, .ref nt, .ref nw, .int (nI np), .int (nI nc)])) : Nat × va_E) ∈ CW cy vo sw hm nt nw np nc χ sa nm nd nca NL nka nκ nζ nα nau nkd nna nth nwe nso α fk fp fa ft g h κ ζ L P dl δ from List.mem_cons_self))
  have n2 := hR.1.1.2
  have hχ : ∀ j, j < 10 → χ j < 4 := fun j hj => (hR.1.2.1 j hj).2
  have hl := RR_len hR α (by omega)
  have hok := hP.1
  have hLe : vq_len L 1023 ∧ vq_len P 1023 := ⟨fun i hi => by rw [(hP.2.2.2.2.2 i hi).1]; exact hl.1 i hi, fun i hi => by rw [(hP.2.2.2.2.2 i hi).2]; exact hl.2 i hi⟩
  rcases mIn_4 v with ⟨hv, s, hs, ev⟩ | ⟨hv, hbad⟩
  · subst ev
    have hk6 : (mIn k 0 5 = true ∧ ∃ i, i < 6 ∧ k = nI i) ∨ (mIn k 0 5 = false ∧ (k < 0 ∨ ¬ k < nI 6)) := mIn_np k (n := 6) (by omega)
    rcases hk6 with ⟨hk, i, hi, ek⟩ | ⟨hk, hbad⟩
    · subst ek
      have hT : mOfsT μ (nI s) (nI i) = 0 := by rw [mOfsT, hv, hk]; rfl
      have gg := hR.2.2.2.2.2.2.2.2.1 s hs
      have eP : (P s).length = (pI s).length := by rw [(hP.2.2.2.2.2 s hs).2, List.length_map]
      have eL : (L s).length = (lI s).length := by rw [(hP.2.2.2.2.2 s hs).1, List.length_map]
      rw [hT, mOfs_RR hR hs hi (by omega)]
      have hpe : w.Perm (wJ (wJ (uVP vo sw hm nt nw np nc) (wJ (uSV cy sw sa) (fam4 (Sv cy sa g h κ ζ L P dl δ)))) (wJ (uHM cy hm χ) (wJ (uLO nt nm nd NL) (wJ (Kw cy nw nka nκ nζ) (wJ (La cy nd nca NL) (wJ (pool NL.length (Nc nα nau nkd nna nth nwe nso)) (pool nc (Ac α fk fp fa ft)))))))) := e.trans (by unfold CW; exact vp_pc (fun n9 hn9 h90 => by simp only [wJ, hn9, h90, Nat.add_zero, Nat.zero_add] <;> ac_rfl))
      refine vm_Qok (kL_ofServer_ok l D cy sz e0 mi vo (nI s) (nI i) oa ff w (wJ (uVP vo sw hm nt nw np nc) (wJ (uSV cy sw sa) (fam4 (Sv cy sa g h κ ζ L P dl δ)))) (wJ (uHM cy hm χ) (wJ (uLO nt nm nd NL) (wJ (Kw cy nw nka nκ nζ) (wJ (La cy nd nca NL) (wJ (pool NL.length (Nc nα nau nkd nna nth nwe nso)) (pool nc (Ac α fk fp fa ft))))))) k0 _ hk0 hpe _ _ ⟨rfl, rfl, by decide, by decide, by decide, by decide⟩ (fun sz => kX4_ofServer l D cy sz e0 mi vo sw hm nt nw np nc sa g h κ ζ L P dl δ s i hs hi (by rw [eP]; exact gg.2.1) (by rw [eP]; omega))) (fun r u hr => ⟨hr.1, fun _ => ?_, fun z => absurd hr.1 z, CI_perm (CI_thr hI0 _) hpe.symm⟩)
      show vp_updL ff 0 u.1.toInt64 = _
      rw [hr.2, eP, eL]
    · have hT : mOfsT μ (nI s) k = 2 := by rw [mOfsT, hv, hk]; rfl
      rw [hT]
      have hy : k.toInt < 0 ∨ 5 < k.toInt := by
        simp only [Int32.lt_iff_toInt_lt, show (0 : Int32).toInt = 0 from rfl, nI_toInt (n := 6) (by omega)] at hbad
        omega
      exact vm_Qo (fun _ => (ff, w)) (fun _ => rfl) (kL_ofServer_A l D cy sz e0 mi vo (nI s) k oa ff w (wJ (uVP vo sw hm nt nw np nc) (wJ (uSV cy sw sa) (fam4 (Sv cy sa g h κ ζ L P dl δ)))) (wJ (uHM cy hm χ) (wJ (uLO nt nm nd NL) (wJ (Kw cy nw nka nκ nζ) (wJ (La cy nd nca NL) (wJ (pool NL.length (Nc nα nau nkd nna nth nwe nso)) (pool nc (Ac α fk fp fa ft))))))) k0 _ hk0 (e.trans (by unfold CW; exact vp_pc (fun n9 hn9 h90 => by simp only [wJ, hn9, h90, Nat.add_zero, Nat.zero_add] <;> ac_rfl))) ⟨rfl, rfl, by decide, by decide, by decide, by decide⟩ (fun sz => kX4_ofServer_A l hfl D cy sz e0 mi vo sw hm nt nw np nc sa g h κ ζ L P dl δ s k hs hy)) (fun r u hr => ⟨hr, fun z => absurd (hr.symm.trans z) (by decide), fun _ => rfl, CI_thr hI0 _⟩)
  · have hT : mOfsT μ v k = 1 := by rw [mOfsT, hv]; rfl
    rw [hT]
    exact vm_Qo (fun _ => (ff, w)) (fun _ => rfl) (kL_ofServer_O l D cy sz e0 mi vo v k oa ff w ([] : va_W) w k0 _ hk0 (w_nil w) ⟨rfl, rfl, by decide, by decide, by decide, by decide⟩ (fun sz => kX4_ofServer_O l hfl D cy sz e0 mi vo v k hbad)) (fun r u hr => ⟨hr, fun z => absurd (hr.symm.trans z) (by decide), fun _ => rfl, CI_thr hI0 _⟩)
