/-! the calls that only read -/
theorem CI_perm {cy : Nat → ClassId} {e0 vo n : Nat} {μ : Nat → Nat → Int32} {w w2 : va_W} (h : CI cy e0 vo n μ w) (hp : w2.Perm w) : CI cy e0 vo n μ w2 := by
  obtain ⟨sv, hm, nt, nw, np, nc, χ, sa, nm, nd, nca, NL, nka, nκ, nζ, nα, nau, nkd, nna, nth, nwe, nso, α, fk, fp, fa, ft, g, h, κ, ζ, L, P, lI, pI, dl, δ, e, q⟩ := h
  exact ⟨sv, hm, nt, nw, np, nc, χ, sa, nm, nd, nca, NL, nka, nκ, nζ, nα, nau, nkd, nna, nth, nwe, nso, α, fk, fp, fa, ft, g, h, κ, ζ, L, P, lI, pI, dl, δ, hp.trans e, q⟩
theorem w_nil (w : va_W) : w.Perm (wJ ([] : va_W) w) := List.Perm.refl _
theorem kM_between (l : Launch) (hfl : l.stackTraces = false) (D : va_G) (cy : Nat → ClassId) (sz e0 mi vo n : Nat) (μ : Nat → Nat → Int32) (w : va_W) (v : Int32) (a : Int32) (b : Int32) (oa : Nat) (ff : Nat → Int64) (hI : CI cy e0 vo n μ w) (hn : n < 512) : Met l yL_between wsL_between ({ frames := 13, cells := 12, slots := 12351, locals := 345 }) (vk_P D cy e0 mi [.ref vo, .int v, .int a, .int b, .ref oa] sz (wJ (uOut cy oa ff) w)) (vg_Qi (S := (Nat → Int64) × va_W) D sz (wJ (uOut cy oa ff) w) (PO cy e0 vo (n + 1) (va_up μ 0 (fun _ => mBetT μ v a b)) ff (mBetR μ v a b)) (fun u => wJ (uOut cy oa u.1) u.2)) 12 12351 (va_A (wJ (uOut cy oa ff) w) sz) := by
  have hI0 := hI
  obtain ⟨sw, hm, nt, nw, np, nc, χ, sa, nm, nd, nca, NL, nka, nκ, nζ, nα, nau, nkd, nna, nth, nwe, nso, α, fk, fp, fa, ft, g, h, κ, ζ, L, P, lI, pI, dl, δ, e, hP, hR, h5, hS, h7, hnc⟩ := hI
  obtain ⟨k0, hk0⟩ := List.mem_iff_getElem?.mp (e.mem_iff.mpr (show ((vo, .inr (5, [.ref sw, .ref hm, .ref nt, .ref nw, .int (nI np), .int (nI nc)])) : Nat × va_E) ∈ CW cy vo sw hm nt nw np nc χ sa nm nd nca NL nka nκ nζ nα nau nkd nna nth nwe nso α fk fp fa ft g h κ ζ L P dl δ from List.mem_cons_self))
  have n2 := hR.1.1.2
  have hχ : ∀ j, j < 10 → χ j < 4 := fun j hj => (hR.1.2.1 j hj).2
  have hl := RR_len hR α (by omega)
  have hok := hP.1
  have hLe : vq_len L 1023 ∧ vq_len P 1023 := ⟨fun i hi => by rw [(hP.2.2.2.2.2 i hi).1]; exact hl.1 i hi, fun i hi => by rw [(hP.2.2.2.2.2 i hi).2]; exact hl.2 i hi⟩
  rcases mIn_4 v with ⟨hv, s, hs, ev⟩ | ⟨hv, hbad⟩
  · subst ev
    rcases mTwo_np hR.1 a b with ⟨hf, p, q, hp, hq, ea, eb⟩ | ⟨hf, hbad⟩
    · subst ea
      subst eb
      have hT : mBetT μ (nI s) (nI p) (nI q) = 0 := by rw [mBetT, if_pos ⟨hv, hf⟩]
      rw [hT, mBet_RR hR hs hp hq]
      have hpe : w.Perm (wJ (wJ (uVP vo sw hm nt nw np nc) (wJ (uSV cy sw sa) (fam4 (Sv cy sa g h κ ζ L P dl δ)))) (wJ (uHM cy hm χ) (wJ (uLO nt nm nd NL) (wJ (Kw cy nw nka nκ nζ) (wJ (La cy nd nca NL) (wJ (pool NL.length (Nc nα nau nkd nna nth nwe nso)) (pool nc (Ac α fk fp fa ft)))))))) := e.trans (by unfold CW; exact vp_pc (fun n9 hn9 h90 => by simp only [wJ, hn9, h90, Nat.add_zero, Nat.zero_add] <;> ac_rfl))
      refine vm_Qok (kL_between_ok l D cy sz e0 mi vo (nI s) (nI p) (nI q) oa ff w (wJ (uVP vo sw hm nt nw np nc) (wJ (uSV cy sw sa) (fam4 (Sv cy sa g h κ ζ L P dl δ)))) (wJ (uHM cy hm χ) (wJ (uLO nt nm nd NL) (wJ (Kw cy nw nka nκ nζ) (wJ (La cy nd nca NL) (wJ (pool NL.length (Nc nα nau nkd nna nth nwe nso)) (pool nc (Ac α fk fp fa ft))))))) k0 _ hk0 hpe _ _ ⟨rfl, rfl, by decide, by decide, by decide, by decide⟩ (fun sz => kX4_between l D cy sz e0 mi vo sw hm nt nw np nc sa g h κ ζ L P dl δ s p q hs hp hq n2)) (fun r u hr => ⟨hr.1, fun _ => ?_, fun z => absurd hr.1 z, CI_perm (CI_thr hI0 _) hpe.symm⟩)
      show vp_updL ff 0 u.1.toInt64 = _
      rw [hr.2]
    · have hT : mBetT μ (nI s) a b = 1 := by rw [mBetT, if_neg (fun z => by rw [hf] at z; cases z.2)]
      rw [hT]
      exact vm_Qo (fun _ => (ff, w)) (fun _ => rfl) (kL_between_O l D cy sz e0 mi vo (nI s) a b oa ff w (uVP vo sw hm nt nw np nc) _ k0 _ hk0 e ⟨rfl, rfl, by decide, by decide, by decide, by decide⟩ (fun sz => kX4_between_O2 l hfl D cy sz e0 mi vo sw hm nt nw np nc s a b hs hbad)) (fun r u hr => ⟨hr, fun z => absurd (hr.symm.trans z) (by decide), fun _ => rfl, CI_thr hI0 _⟩)
  · have hT : mBetT μ v a b = 1 := by rw [mBetT, if_neg (fun z => by rw [hv] at z; cases z.1)]
    rw [hT]
    exact vm_Qo (fun _ => (ff, w)) (fun _ => rfl) (kL_between_O l D cy sz e0 mi vo v a b oa ff w ([] : va_W) w k0 _ hk0 (w_nil w) ⟨rfl, rfl, by decide, by decide, by decide, by decide⟩ (fun sz => kX4_between_O1 l hfl D cy sz e0 mi vo v a b hbad)) (fun r u hr => ⟨hr, fun z => absurd (hr.symm.trans z) (by decide), fun _ => rfl, CI_thr hI0 _⟩)
