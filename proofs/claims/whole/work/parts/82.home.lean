/-! home, seesAnew at the law's level -/
theorem kM_home (l : Launch) (hfl : l.stackTraces = false) (D : va_G) (cy : Nat → ClassId) (sz e0 mi vo n : Nat) (μ : Nat → Nat → Int32) (w : va_W) (a : Int32) (b : Int32) (oa : Nat) (ff : Nat → Int64) (hI : CI cy e0 vo n μ w) (hn : n < 512) : Met l yL_home wsL_home ({ frames := 13, cells := 12, slots := 12351, locals := 345 }) (vk_P D cy e0 mi [.ref vo, .int a, .int b, .ref oa] sz (wJ (uOut cy oa ff) w)) (vg_Qi (S := (Nat → Int64) × va_W) D sz (wJ (uOut cy oa ff) w) (PO cy e0 vo (n + 1) (va_up μ 0 (fun _ => mHomT μ a b)) ff (mHomR μ a b)) (fun u => wJ (uOut cy oa u.1) u.2)) 12 12351 (va_A (wJ (uOut cy oa ff) w) sz) := by
  have hI0 := hI
  obtain ⟨sw, hm, nt, nw, np, nc, χ, sa, nm, nd, nca, NL, nka, nκ, nζ, nα, nau, nkd, nna, nth, nwe, nso, α, fk, fp, fa, ft, g, h, κ, ζ, L, P, lI, pI, dl, δ, e, hP, hR, h5, hS, h7, hnc⟩ := hI
  obtain ⟨k0, hk0⟩ := List.mem_iff_getElem?.mp (e.mem_iff.mpr (show ((vo, .inr (5, [.ref sw, .ref hm, .ref nt, .ref nw, .int (nI np), .int (nI nc)])) : Nat × va_E) ∈ CW cy vo sw hm nt nw np nc χ sa nm nd nca NL nka nκ nζ nα nau nkd nna nth nwe nso α fk fp fa ft g h κ ζ L P dl δ from List.mem_cons_self))
  have n2 := hR.1.1.2
  have hχ : ∀ j, j < 10 → χ j < 4 := fun j hj => (hR.1.2.1 j hj).2
  have hl := RR_len hR α (by omega)
  have hok := hP.1
  have hLe : vq_len L 1023 ∧ vq_len P 1023 := ⟨fun i hi => by rw [(hP.2.2.2.2.2 i hi).1]; exact hl.1 i hi, fun i hi => by rw [(hP.2.2.2.2.2 i hi).2]; exact hl.2 i hi⟩
  have n7 := hR.1.2.2.2.2
  have hA := mIn_np a (n := np) (by omega)
  rw [← hR.1.1.1] at hA
  rcases hA with ⟨ha, p, hp, ea⟩ | ⟨ha, hbad⟩
  · subst ea
    by_cases hb : b < 0
    · have hT : mHomT μ (nI p) b = 1 := by rw [mHomT, if_neg (fun z => z.2 hb)]
      rw [hT]
      exact vm_Qo (fun _ => (ff, w)) (fun _ => rfl) (kL_home_O l D cy sz e0 mi vo (nI p) b oa ff w (uVP vo sw hm nt nw np nc) _ k0 _ hk0 e ⟨rfl, rfl, by decide, by decide, by decide, by decide⟩ (fun sz => kX4_home_O2 l hfl D cy sz e0 mi vo sw hm nt nw np nc p b hp n2 hb)) (fun r u hr => ⟨hr, fun z => absurd (hr.symm.trans z) (by decide), fun _ => rfl, CI_thr hI0 _⟩)
    · have hT : mHomT μ (nI p) b = 0 := by rw [mHomT, if_pos ⟨ha, hb⟩]
      obtain ⟨j, hj, ej⟩ := nI_of hb
      have en : tn (μ 11 0) = NL.length := by rw [hR.1.2.2.2.1, tn_nI (by omega)]
      have hh : mHomF μ p NL.length b = cHom (fun n9 => kAth (κ (χ p)) (ζ (χ p)) p n9 (nau n9) (nkd n9) (nna n9)) b NL.length 0 := by
        rw [ej]
        exact mHomF_c hR hp hj NL.length 0 (Nat.le_refl _) (Nat.zero_le _)
      rw [mHomR, hT, if_pos rfl, tn_nI (by omega), en, hh]
      have hpe : w.Perm (wJ (wJ (uVP vo sw hm nt nw np nc) (wJ (uHM cy hm χ) (wJ (uSV cy sw sa) (wJ (uLO nt nm nd NL) (wJ (La cy nd nca NL) (wJ (pool NL.length (Nc nα nau nkd nna nth nwe nso)) (fam4 (Sv cy sa g h κ ζ L P dl δ)))))))) (wJ (Kw cy nw nka nκ nζ) (pool nc (Ac α fk fp fa ft)))) := e.trans (by unfold CW; exact vp_pc (fun n9 hn9 h90 => by simp only [wJ, hn9, h90, Nat.add_zero, Nat.zero_add] <;> ac_rfl))
      refine vm_Qok (kL_home_ok l D cy sz e0 mi vo (nI p) b oa ff w (wJ (uVP vo sw hm nt nw np nc) (wJ (uHM cy hm χ) (wJ (uSV cy sw sa) (wJ (uLO nt nm nd NL) (wJ (La cy nd nca NL) (wJ (pool NL.length (Nc nα nau nkd nna nth nwe nso)) (fam4 (Sv cy sa g h κ ζ L P dl δ)))))))) (wJ (Kw cy nw nka nκ nζ) (pool nc (Ac α fk fp fa ft))) k0 _ hk0 hpe _ _ ⟨rfl, rfl, by decide, by decide, by decide, by decide⟩ (fun sz => kX4_home l D cy sz e0 mi vo sw hm nt nw np nc χ sa nm nd nca NL nα nau nkd nna nth nwe nso g h κ ζ L P dl δ p b hp n2 hχ n7 hP.2.2.1 hP.2.2.2.1 (fun j hj => by have := (hR.2.2.2.1 j hj).2.1; omega) hb)) (fun r u hr => ⟨hr.1, fun _ => ?_, fun z => absurd hr.1 z, CI_perm (CI_thr hI0 _) hpe.symm⟩)
      show vp_updL ff 0 u.1.toInt64 = _
      rw [hr.2]
  · have hT : mHomT μ a b = 1 := by rw [mHomT, if_neg (fun z => by rw [ha] at z; cases z.1)]
    rw [hT]
    rw [hR.1.1.1] at hbad
    exact vm_Qo (fun _ => (ff, w)) (fun _ => rfl) (kL_home_O l D cy sz e0 mi vo a b oa ff w (uVP vo sw hm nt nw np nc) _ k0 _ hk0 e ⟨rfl, rfl, by decide, by decide, by decide, by decide⟩ (fun sz => kX4_home_O1 l hfl D cy sz e0 mi vo sw hm nt nw np nc a b hbad)) (fun r u hr => ⟨hr, fun z => absurd (hr.symm.trans z) (by decide), fun _ => rfl, CI_thr hI0 _⟩)
