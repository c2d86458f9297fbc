/-! the calls that answer: the out cell -/
def PO (cy : Nat → ClassId) (e0 vo n : Nat) (μ : Nat → Nat → Int32) (f : Nat → Int64) (x : Int32) : Int32 → (Nat → Int64) × va_W → Prop := fun r u => r = μ 0 0 ∧ (r = 0 → u.1 = vp_updL f 0 x.toInt64) ∧ (¬ r = 0 → u.1 = f) ∧ CI cy e0 vo n μ u.2
theorem vm_Qo {S : Type} {l : Launch} {y : MethodName} {ws : List Cond} {rm : Room} {Pc : Array Value → State → Prop} {D : va_G} {sz : Nat} {W : va_W} {post : Int32 → S → Prop} {W1 : S → va_W} {post' : Int32 → (Nat → Int64) × va_W → Prop} {W2 : (Nat → Int64) × va_W → va_W} {mc ms : Nat} {fr : Addr → Prop} (F : S → (Nat → Int64) × va_W) (hF : ∀ u, W1 u = W2 (F u)) (h : Met l y ws rm Pc (vg_Qi (S := S) D sz W post W1) mc ms fr) (hp : ∀ r u, post r u → post' r (F u)) : Met l y ws rm Pc (vg_Qi (S := (Nat → Int64) × va_W) D sz W post' W2) mc ms fr :=
  MetFree.mono h (fun _ _ q => q) (fun _ _ _ _ _ q => q) (fun a s o t _ q => by
    obtain ⟨⟨⟨r, u, e, hp1, hB⟩, hG⟩, hr⟩ := q
    refine ⟨⟨⟨r, F u, e, hp r u hp1, ?_⟩, hG⟩, hr⟩
    unfold vg_B
    rw [← hF u]
    exact hB)
theorem vm_Qok {S : Type} {l : Launch} {y : MethodName} {ws : List Cond} {rm : Room} {Pc : Array Value → State → Prop} {D : va_G} {sz : Nat} {W Wr : va_W} {cy : Nat → ClassId} {oa : Nat} {f : Nat → Int64} {post : Int32 → Int32 × S → Prop} {W1 : S → va_W} {post' : Int32 → (Nat → Int64) × va_W → Prop} {mc ms : Nat} {fr : Addr → Prop} (h : Met l y ws rm Pc (vg_Qi (S := Int32 × S) D sz W post (fun u => wJ (uOut cy oa (vp_updL f 0 u.1.toInt64)) (wJ (W1 u.2) Wr))) mc ms fr) (hp : ∀ r u, post r u → post' r (vp_updL f 0 u.1.toInt64, wJ (W1 u.2) Wr)) : Met l y ws rm Pc (vg_Qi (S := (Nat → Int64) × va_W) D sz W post' (fun u => wJ (uOut cy oa u.1) u.2)) mc ms fr := vm_Qo (fun (u : Int32 × S) => (vp_updL f 0 u.1.toInt64, wJ (W1 u.2) Wr)) (fun _ => rfl) h hp
theorem kM_move (l : Launch) (hfl : l.stackTraces = false) (D : va_G) (cy : Nat → ClassId) (sz e0 mi vo n : Nat) (μ : Nat → Nat → Int32) (w : va_W) (a b : Int32) (oa : Nat) (ff : Nat → Int64) (hI : CI cy e0 vo n μ w) (hn : n < 512) : Met l yL_move wsL_move ({ frames := 13, cells := 12, slots := 12351, locals := 345 }) (vk_P D cy e0 mi [.ref vo, .int a, .int b, .ref oa] sz (wJ (uOut cy oa ff) w)) (vg_Qi (S := (Nat → Int64) × va_W) D sz (wJ (uOut cy oa ff) w) (PO cy e0 vo (n + 1) (mMve μ a b) ff (mMveR μ a b)) (fun u => wJ (uOut cy oa u.1) u.2)) 12 12351 (va_A (wJ (uOut cy oa ff) w) sz) := by
  have hI0 := hI
  obtain ⟨sw, hm, nt, nw, np, nc, χ, sa, nm, nd, nca, NL, nka, nκ, nζ, nα, nau, nkd, nna, nth, nwe, nso, α, fk, fp, fa, ft, g, h, κ, ζ, L, P, lI, pI, dl, δ, e, hP, hR, h5, hS, h7, hnc⟩ := hI
  obtain ⟨k0, hk0⟩ := List.mem_iff_getElem?.mp (e.mem_iff.mpr (show ((vo, .inr (5, [.ref sw, .ref hm, .ref nt, .ref nw, .int (nI np), .int (nI nc)])) : Nat × va_E) ∈ CW cy vo sw hm nt nw np nc χ sa nm nd nca NL nka nκ nζ nα nau nkd nna nth nwe nso α fk fp fa ft g h κ ζ L P dl δ from List.mem_cons_self))
  have n2 := hR.1.1.2
  have hχ : ∀ j, j < 10 → χ j < 4 := fun j hj => (hR.1.2.1 j hj).2
  have hl := RR_len hR α (by omega)
  have hok := hP.1
  have hLe : vq_len L 1023 ∧ vq_len P 1023 := ⟨fun i hi => by rw [(hP.2.2.2.2.2 i hi).1]; exact hl.1 i hi, fun i hi => by rw [(hP.2.2.2.2.2 i hi).2]; exact hl.2 i hi⟩
  rcases mTwo_np hR.1 a b with ⟨-, p, q, hp, hq, ea, eb⟩ | ⟨hf, hbad⟩
  · subst ea
    subst eb
    obtain ⟨m1, m2, m3⟩ := mMve_RR hR hp hq
    rw [m1, m2]
    by_cases d : kHas (κ (χ p) 3 q) p = true
    · rw [if_pos d, if_pos d]
      have hs := (hR.2.2.2.2.2.2.1 _ (hχ p (by omega)))
      refine vm_Qok (kL_move_ok l D cy sz e0 mi vo (nI p) (nI q) oa ff w (wJ (uVP vo sw hm nt nw np nc) (wJ (uHM cy hm χ) (wJ (uSV cy sw sa) (wJ (pool nc (Ac α fk fp fa ft)) (fam4 (Sv cy sa g h κ ζ L P dl δ)))))) (wJ (uLO nt nm nd NL) (wJ (Kw cy nw nka nκ nζ) (wJ (La cy nd nca NL) (pool NL.length (Nc nα nau nkd nna nth nwe nso))))) k0 _ hk0 (e.trans (by unfold CW; exact vp_pc (fun n9 hn9 h90 => by simp only [wJ, hn9, h90, Nat.add_zero, Nat.zero_add] <;> ac_rfl))) _ _ ⟨rfl, rfl, by decide, by decide, by decide, by decide⟩ (fun sz => kX4_move l D cy sz e0 mi vo sw hm nt nw np nc χ sa α fk fp fa ft g h κ ζ L P dl δ p q n2 hχ (by omega) hok hP.2.1 hLe.1 hLe.2 (RR_dn hR (hχ p (by omega)) (by omega)) hp hq d)) (fun r u hr => ⟨?_, fun _ => ?_, fun z => absurd hr.1 z, ?_⟩)
      · rw [mAct_0]; exact hr.1
      · show vp_updL ff 0 u.1.toInt64 = _
        rw [hr.2.1]
      · exact CI_act_n hP (RR_0 hR _) (b5_rows h5 rfl) (bS_rows hS rfl rfl) h7 hnc hn (by omega) hp (fun _ => hq) (fun z => absurd z (by omega)) (kFo_np hs.1 hs.2.2.1 (by omega)) (fun z => absurd z (by omega)) (fun z => by rcases z.1 with z | z <;> cases z) hr.2.2 (by unfold CW; exact vp_pc (fun n9 hn9 h90 => by simp only [wJ, hn9, h90, Nat.add_zero, Nat.zero_add] <;> ac_rfl))
    · rw [if_neg d, if_neg d]
      exact vm_Qo (fun _ => (ff, w)) (fun _ => rfl) (kL_move_S l D cy sz e0 mi vo (nI p) (nI q) oa ff w (wJ (uVP vo sw hm nt nw np nc) (wJ (uHM cy hm χ) (wJ (uSV cy sw sa) (fam4 (Sv cy sa g h κ ζ L P dl δ))))) (wJ (uLO nt nm nd NL) (wJ (Kw cy nw nka nκ nζ) (wJ (La cy nd nca NL) (wJ (pool NL.length (Nc nα nau nkd nna nth nwe nso)) (pool nc (Ac α fk fp fa ft)))))) k0 _ hk0 (e.trans (by unfold CW; exact vp_pc (fun n9 hn9 h90 => by simp only [wJ, hn9, h90, Nat.add_zero, Nat.zero_add] <;> ac_rfl))) ⟨rfl, rfl, by decide, by decide, by decide, by decide⟩ (fun sz => kX4_move_S l hfl D cy sz e0 mi vo sw hm nt nw np nc χ sa g h κ ζ L P dl δ p q hp hq n2 hχ (Bool.eq_false_iff.mpr d))) (fun r u hr => ⟨hr, fun z => absurd (hr.symm.trans z) (by decide), fun _ => rfl, CI_thr hI0 _⟩)
  · have hT : mMveT μ a b = 1 := by rw [mMveT, if_pos hf]
    rw [mMve, mMveR, hT, if_neg (by decide), if_neg (by decide)]
    exact vm_Qo (fun _ => (ff, w)) (fun _ => rfl) (kL_move_O l D cy sz e0 mi vo a b oa ff w (uVP vo sw hm nt nw np nc) _ k0 _ hk0 e ⟨rfl, rfl, by decide, by decide, by decide, by decide⟩ (fun sz => kX4_move_O l hfl D cy sz e0 mi vo sw hm nt nw np nc a b hbad)) (fun r u hr => ⟨hr, fun z => absurd (hr.symm.trans z) (by decide), fun _ => rfl, CI_thr hI0 _⟩)
