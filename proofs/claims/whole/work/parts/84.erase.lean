/-! boost, delete at the law's level -/
theorem vq_el_new {L P : Nat → List Nat} {pl : va_W} {s q n k p a : Nat} {td sv : Int32} (h : vq_el L P pl) : vq_el (va_up L s (L s ++ [q])) (sPk P q sv 4) (Aw q n k p a td ++ pl) := by
  have old : ∀ y, (∃ vs, ((y, .inr (1, vs)) : Nat × va_E) ∈ pl) → ∃ vs, ((y, .inr (1, vs)) : Nat × va_E) ∈ Aw q n k p a td ++ pl := fun y hy => hy.imp (fun _ hv => List.mem_append_right _ hv)
  have new : ∃ vs, ((q, .inr (1, vs)) : Nat × va_E) ∈ Aw q n k p a td ++ pl := ⟨_, List.mem_append_left _ List.mem_cons_self⟩
  intro i hi
  refine ⟨fun y hy => ?_, fun y hy => ?_⟩
  · by_cases c : i = s
    · subst c
      rw [va_up_self] at hy
      rcases List.mem_append.mp hy with hy | hy
      · exact old y ((h i hi).1 y hy)
      · rw [List.mem_singleton.mp hy]; exact new
    · rw [va_up_ne _ _ c] at hy
      exact old y ((h i hi).1 y hy)
  · rw [sPk_at] at hy
    split at hy
    · rcases List.mem_append.mp hy with hy | hy
      · exact old y ((h i hi).2 y hy)
      · rw [List.mem_singleton.mp hy]; exact new
    · exact old y ((h i hi).2 y hy)
theorem vSO_P {l : Launch} {D : va_G} {cy : Nat → ClassId} {e0 mi vo sv hm nt nw np nc : Nat} {χ sa : Nat → Nat} {ac an ak ap ab : Nat} {td : Int32} {pl : va_W} {g : Nat → Nat → Nat} {κ : Nat → Nat → Nat → Int32} {ζ : Nat → Nat → Nat → Int64} {L P P1 P2 : Nat → List Nat} {dl : Nat → Nat} {δ : Nat → Nat → Int32} {si : Nat} {X X1 X2 : va_W} (h : vSO l D cy e0 mi vo sv hm nt nw np nc χ sa ac an ak ap ab td pl g κ ζ L P P1 dl δ si X X1) (e : P1 = P2) (e2 : X1 = X2) : vSO l D cy e0 mi vo sv hm nt nw np nc χ sa ac an ak ap ab td pl g κ ζ L P P2 dl δ si X X2 := by
  subst e
  subst e2
  exact h
theorem sPk_z (P : Nat → List Nat) (y : Nat) : ∀ n, n ≤ 32 → sPk P y 0 n = P
  | 0, _ => rfl
  | n + 1, h => by rw [sPk, if_neg (by rw [kHas_0 (by omega)]; decide), sPk_z P y n (by omega)]
theorem nth_t {np nc nn : Nat} {χ nau : Nat → Nat} {nkd nna nth nwe nso : Nat → Int32} {fk fp fa : Nat → Nat} {ft : Nat → Int32} {κ : Nat → Nat → Nat → Int32} {ζ : Nat → Nat → Nat → Int64} {lI pI : Nat → List Nat} {dl : Nat → Nat} {δ : Nat → Nat → Int32} {μ : Nat → Nat → Int32} {N : Nat} (h : RR np nc nn χ nau nkd nna nth nwe nso fk fp fa ft κ ζ lI pI dl δ μ N) {n : Nat} (hn : n < nn) : ∃ t, (nth n = -1 ∨ (nth n = nI t ∧ t < 10)) ∧ ∀ s, ¬ qC χ nkd nth n s → ¬ (nkd n = 0 ∧ ¬ nth n = -1 ∧ χ t = s) := by
  obtain ⟨h0, hW, hA, h2, h3, h4, hS, h6⟩ := h
  obtain ⟨p1, p2, p3, p4, p5⟩ := h2 n hn
  rcases p5 with ⟨p6, p7⟩ | ⟨r, hr, p6, p7⟩
  · exact ⟨0, Or.inl p6, fun s _ z => z.2.1 p6⟩
  · have hr10 : nau r < 10 := by have := (h2 r hr).2.1; have := h0.1.2; omega
    exact ⟨nau r, Or.inr ⟨p7, hr10⟩, fun s c z => c ⟨z.1, nau r, hr10, p7, z.2.2⟩⟩
theorem CI_act_9 {cy : Nat → ClassId} {e0 vo sw hm nt nw np nc : Nat} {χ sa : Nat → Nat} {nm nd nca : Nat} {NL : List Nat} {nka : Nat → Nat} {nκ : Nat → Nat → Int32} {nζ : Nat → Nat → Int64} {nα nau : Nat → Nat} {nkd nna nth nwe nso : Nat → Int32} {α fk fp fa : Nat → Nat} {ft : Nat → Int32} {g h : Nat → Nat → Nat} {κ : Nat → Nat → Nat → Int32} {ζ : Nat → Nat → Nat → Int64} {L P lI pI : Nat → List Nat} {dl : Nat → Nat} {δ : Nat → Nat → Int32} {μ : Nat → Nat → Int32} {n : Nat} (hP : CP e0 nc nd nca NL nα nau nkd nna nth nwe nso α fk fp fa ft h L P lI pI) (hR : RR np nc NL.length χ nau nkd nna nth nwe nso fk fp fa ft κ ζ lI pI dl δ μ (2 * n)) (h5 : b5 μ) (hS : bS μ) (h7 : q7 pI dl δ) (hnc : nc ≤ n) {h2 : Nat → Nat → Nat} {p q t u : Nat} {td sv : Int32} (hn : n < 512) (hp : p < np) (hq : q < NL.length) (hf : ∀ f, f < 10 → kHas td f = true → f < np) (hkd : nkd q = 0) (ht : t < 10) (he : nth q = nI t) (hx : χ t = χ p) (hz : nso q = 0) (hok : vq_ok e0 h2 (va_up L (χ p) (L (χ p) ++ [u])) (sPk P u (sv &&& (kBit (χ p) ^^^ (-1))) 4)) {w : va_W} (hw : w.Perm (CW cy vo sw hm nt nw np (nc + 1) χ sa nm nd nca NL nka nκ nζ nα nau nkd nna nth nwe nso (va_up α nc u) (va_up fk nc 9) (va_up fp nc p) (va_up fa nc q) (va_up ft nc td) g h2 (va_up κ (χ p) (kLearn (κ (χ p)) 9 p q td)) (va_up ζ (χ p) (zLearn (ζ (χ p)) 9 p q)) (va_up L (χ p) (L (χ p) ++ [u])) (sPk P u (sv &&& (kBit (χ p) ^^^ (-1))) 4) dl (va_up δ (χ p) (upd (δ (χ p)) nc 1)))) : CI cy e0 vo (n + 1) (mAct μ 9 p q td sv) w := by
  have h9 := RR_act_9 (sv := sv) hR (by omega) (by omega) hp (fun z => absurd z (by omega)) (fun _ => hq) hf (fun z => absurd z (by omega)) (by omega) hkd ht he hx
  rw [hz, sPk_z _ _ 4 (by omega)] at h9
  obtain ⟨r0, r1, r2, r3, r4, r5, r6, r7⟩ := h9
  have n2 := hR.1.1.2
  have n7 := hR.1.2.2.2.2
  exact ⟨sw, hm, nt, nw, np, nc + 1, χ, sa, nm, nd, nca, NL, nka, nκ, nζ, nα, nau, nkd, nna, nth, nwe, nso, _, _, _, _, _, g, h2, _, _, _, _, _, _, dl, _, hw, CP_act hP hR hok, ⟨r0, r1, r2, r3, r4, r5, r6, q6_mono r7 (by omega)⟩, b5_act h5 _ _ _ _ _, bS_act hS hR.2.1 td sv (by omega) (by omega) (by omega) (fun z => absurd z (by omega)), q7_dlt (q7_snd _ h7 (fun i hi => (hR.2.2.2.2.2.2.2.2.1 i hi).2.1)), by omega⟩
theorem kM_boost (l : Launch) (hfl : l.stackTraces = false) (D : va_G) (cy : Nat → ClassId) (sz e0 mi vo n : Nat) (μ : Nat → Nat → Int32) (w : va_W) (a b : Int32) (hI : CI cy e0 vo n μ w) (hn : n < 512) : Met l yL_boost wsL_boost ({ frames := 13, cells := 12, slots := 12351, locals := 345 }) (vk_P D cy e0 mi [.ref vo, .int a, .int b] sz w) (vg_Qi (S := va_W) D sz w (PI cy e0 vo (n + 1) (mBoo μ a b)) (fun w => w)) 12 12351 (va_A w sz) := by
  have hI0 := hI
  obtain ⟨sw, hm, nt, nw, np, nc, χ, sa, nm, nd, nca, NL, nka, nκ, nζ, nα, nau, nkd, nna, nth, nwe, nso, α, fk, fp, fa, ft, g, h, κ, ζ, L, P, lI, pI, dl, δ, e, hP, hR, h5, hS, h7, hnc⟩ := hI
  obtain ⟨k0, hk0⟩ := List.mem_iff_getElem?.mp (e.mem_iff.mpr (show ((vo, .inr (5, [.ref sw, .ref hm, .ref nt, .ref nw, .int (nI np), .int (nI nc)])) : Nat × va_E) ∈ CW cy vo sw hm nt nw np nc χ sa nm nd nca NL nka nκ nζ nα nau nkd nna nth nwe nso α fk fp fa ft g h κ ζ L P dl δ from List.mem_cons_self))
  have n2 := hR.1.1.2
  have hχ : ∀ j, j < 10 → χ j < 4 := fun j hj => (hR.1.2.1 j hj).2
  have hl := RR_len hR α (by omega)
  have hok := hP.1
  have hLe : vq_len L 1023 ∧ vq_len P 1023 := ⟨fun i hi => by rw [(hP.2.2.2.2.2 i hi).1]; exact hl.1 i hi, fun i hi => by rw [(hP.2.2.2.2.2 i hi).2]; exact hl.2 i hi⟩
  have n7 := hR.1.2.2.2.2
  have hA := mIn_np a (n := np) (by omega)
  have hB := mIn_np b (n := NL.length) (by omega)
  rw [← hR.1.1.1] at hA
  rw [← hR.1.2.2.2.1] at hB
  rcases hA with ⟨ha, p, hp, ea⟩ | ⟨ha, hbad⟩
  · subst ea
    rcases hB with ⟨hb, i, hi, eb⟩ | ⟨hb, hbad⟩
    · subst eb
      rw [mBoo_RR hR hp hi]
      by_cases c : ¬ nkd i = 0 ∨ kSee (κ (χ p)) (ζ (χ p)) p i (nau i) (nkd i) (nna i) = false ∨ kHsL (ζ (χ p) 0 p) i = true
      · rw [if_pos c]
        exact vm_Qi (kL_boost_S l D cy sz e0 mi vo (nI p) (nI i) w (wJ (uVP vo sw hm nt nw np nc) (wJ (uHM cy hm χ) (wJ (uSV cy sw sa) (wJ (uLO nt nm nd NL) (wJ (La cy nd nca NL) (wJ (pool NL.length (Nc nα nau nkd nna nth nwe nso)) (fam4 (Sv cy sa g h κ ζ L P dl δ)))))))) (wJ (Kw cy nw nka nκ nζ) (pool nc (Ac α fk fp fa ft))) k0 _ hk0 (e.trans (by unfold CW; exact vp_pc (fun n9 hn9 h90 => by simp only [wJ, hn9, h90, Nat.add_zero, Nat.zero_add] <;> ac_rfl))) ⟨rfl, rfl, by decide, by decide, by decide, by decide⟩ (fun sz => kX4_boost_S l hfl D cy sz e0 mi vo sw hm nt nw np nc χ sa nm nd nca NL nα nau nkd nna nth nwe nso g h κ ζ L P dl δ p i hp n2 hχ n7 hP.2.2.1 hP.2.2.2.1 (fun j hj => by have := (hR.2.2.2.1 j hj).2.1; omega) hi c)) (fun r u hr => ⟨hr, CI_thr hI0 _⟩)
      · rw [if_neg c]
        have c1 : nkd i = 0 := Classical.byContradiction (fun z => c (Or.inl z))
        have c2 : kSee (κ (χ p)) (ζ (χ p)) p i (nau i) (nkd i) (nna i) = true := by cases z : kSee (κ (χ p)) (ζ (χ p)) p i (nau i) (nkd i) (nna i); exact absurd (Or.inr (Or.inl z)) c; rfl
        have c3 : kHsL (ζ (χ p) 0 p) i = false := Bool.eq_false_iff.mpr (fun z => c (Or.inr (Or.inr z)))
        refine vm_Qi (kL_boost_ok l D cy sz e0 mi vo (nI p) (nI i) w (wJ (uVP vo sw hm nt nw np nc) (wJ (uHM cy hm χ) (wJ (uSV cy sw sa) (wJ (uLO nt nm nd NL) (wJ (La cy nd nca NL) (wJ (pool NL.length (Nc nα nau nkd nna nth nwe nso)) (wJ (pool nc (Ac α fk fp fa ft)) (fam4 (Sv cy sa g h κ ζ L P dl δ))))))))) (Kw cy nw nka nκ nζ) k0 _ hk0 (e.trans (by unfold CW; exact vp_pc (fun n9 hn9 h90 => by simp only [wJ, hn9, h90, Nat.add_zero, Nat.zero_add] <;> ac_rfl))) _ _ ⟨rfl, rfl, by decide, by decide, by decide, by decide⟩ (fun sz => kX4_boost l D cy sz e0 mi vo sw hm nt nw np nc χ sa nm nd nca NL nα nau nkd nna nth nwe nso α fk fp fa ft g h κ ζ L P dl δ p i hp n2 hχ n7 hP.2.2.1 hP.2.2.2.1 (fun j hj => by have := (hR.2.2.2.1 j hj).2.1; omega) hi (by omega) hok hP.2.1 hLe.1 hLe.2 (RR_dn hR (hχ p (by omega)) (by omega)) c1 c2 c3)) (fun r u hr => ⟨?_, ?_⟩)
        · rw [mAct_0]; exact hr.1
        · exact CI_act_n hP (RR_0 hR _) (b5_rows h5 rfl) (bS_rows hS rfl rfl) h7 hnc hn (by omega) hp (fun z => absurd z (by omega)) (fun _ => hi) (fun f hf z => by rw [kHas_0 (by omega)] at z; cases z) (fun z => absurd z (by omega)) (fun z => absurd z.1 (by omega)) hr.2 (by unfold CW; exact vp_pc (fun n9 hn9 h90 => by simp only [wJ, hn9, h90, Nat.add_zero, Nat.zero_add] <;> ac_rfl))
    · have hT : mBooT μ (nI p) b = 1 := by rw [mBooT, if_pos (Or.inr hb)]
      rw [mBoo, hT, if_neg (by decide)]
      rw [hR.1.2.2.2.1] at hbad
      exact vm_Qi (kL_boost_O l D cy sz e0 mi vo (nI p) b w (wJ (uVP vo sw hm nt nw np nc) (uLO nt nm nd NL)) (wJ (uHM cy hm χ) (wJ (uSV cy sw sa) (wJ (Kw cy nw nka nκ nζ) (wJ (La cy nd nca NL) (wJ (pool NL.length (Nc nα nau nkd nna nth nwe nso)) (wJ (pool nc (Ac α fk fp fa ft)) (fam4 (Sv cy sa g h κ ζ L P dl δ)))))))) k0 _ hk0 (e.trans (by unfold CW; exact vp_pc (fun n9 hn9 h90 => by simp only [wJ, hn9, h90, Nat.add_zero, Nat.zero_add] <;> ac_rfl))) ⟨rfl, rfl, by decide, by decide, by decide, by decide⟩ (fun sz => kX4_boost_O2 l hfl D cy sz e0 mi vo sw hm nt nw np nc p nm nd NL b hp n2 hbad)) (fun r u hr => ⟨hr, CI_thr hI0 _⟩)
  · have hT : mBooT μ a b = 1 := by rw [mBooT, if_pos (Or.inl ha)]
    rw [mBoo, hT, if_neg (by decide)]
    rw [hR.1.1.1] at hbad
    exact vm_Qi (kL_boost_O l D cy sz e0 mi vo a b w (uVP vo sw hm nt nw np nc) _ k0 _ hk0 e ⟨rfl, rfl, by decide, by decide, by decide, by decide⟩ (fun sz => kX4_boost_O1 l hfl D cy sz e0 mi vo sw hm nt nw np nc a b hbad)) (fun r u hr => ⟨hr, CI_thr hI0 _⟩)
theorem kM_delete (l : Launch) (hfl : l.stackTraces = false) (D : va_G) (cy : Nat → ClassId) (sz e0 mi vo n : Nat) (μ : Nat → Nat → Int32) (w : va_W) (a : Int32) (oa : Nat) (ff : Nat → Int64) (hI : CI cy e0 vo n μ w) (hn : n < 512) : Met l yL_delete wsL_delete ({ frames := 13, cells := 12, slots := 12351, locals := 345 }) (vk_P D cy e0 mi [.ref vo, .int a, .ref oa] sz (wJ (uOut cy oa ff) w)) (vg_Qi (S := (Nat → Int64) × va_W) D sz (wJ (uOut cy oa ff) w) (PO cy e0 vo (n + 1) (mDel μ a) ff (mDelR μ a)) (fun u => wJ (uOut cy oa u.1) u.2)) 12 12351 (va_A (wJ (uOut cy oa ff) w) sz) := by
  have hI0 := hI
  obtain ⟨sw, hm, nt, nw, np, nc, χ, sa, nm, nd, nca, NL, nka, nκ, nζ, nα, nau, nkd, nna, nth, nwe, nso, α, fk, fp, fa, ft, g, h, κ, ζ, L, P, lI, pI, dl, δ, e, hP, hR, h5, hS, h7, hnc⟩ := hI
  obtain ⟨k0, hk0⟩ := List.mem_iff_getElem?.mp (e.mem_iff.mpr (show ((vo, .inr (5, [.ref sw, .ref hm, .ref nt, .ref nw, .int (nI np), .int (nI nc)])) : Nat × va_E) ∈ CW cy vo sw hm nt nw np nc χ sa nm nd nca NL nka nκ nζ nα nau nkd nna nth nwe nso α fk fp fa ft g h κ ζ L P dl δ from List.mem_cons_self))
  have n2 := hR.1.1.2
  have hχ : ∀ j, j < 10 → χ j < 4 := fun j hj => (hR.1.2.1 j hj).2
  have hl := RR_len hR α (by omega)
  have hok := hP.1
  have hLe : vq_len L 1023 ∧ vq_len P 1023 := ⟨fun i hi => by rw [(hP.2.2.2.2.2 i hi).1]; exact hl.1 i hi, fun i hi => by rw [(hP.2.2.2.2.2 i hi).2]; exact hl.2 i hi⟩
  have n7 := hR.1.2.2.2.2
  have hB := mIn_np a (n := NL.length) (by omega)
  rw [← hR.1.2.2.2.1] at hB
  rcases hB with ⟨hb, i, hi, eb⟩ | ⟨hb, hbad⟩
  · subst eb
    obtain ⟨m1, m2⟩ := mDel_RR hR hi
    have hau := (hR.2.2.2.1 i hi).2.1
    rw [m1, m2]
    by_cases c : kHsL (ζ (χ (nau i)) 2 0) i = true
    · rw [if_pos c, if_pos c]
      exact vm_Qo (fun _ => (ff, w)) (fun _ => rfl) (kL_delete_S l D cy sz e0 mi vo (nI i) oa ff w (wJ (uVP vo sw hm nt nw np nc) (wJ (uHM cy hm χ) (wJ (uSV cy sw sa) (wJ (uLO nt nm nd NL) (wJ (La cy nd nca NL) (wJ (pool NL.length (Nc nα nau nkd nna nth nwe nso)) (fam4 (Sv cy sa g h κ ζ L P dl δ)))))))) (wJ (Kw cy nw nka nκ nζ) (pool nc (Ac α fk fp fa ft))) k0 _ hk0 (e.trans (by unfold CW; exact vp_pc (fun n9 hn9 h90 => by simp only [wJ, hn9, h90, Nat.add_zero, Nat.zero_add] <;> ac_rfl))) ⟨rfl, rfl, by decide, by decide, by decide, by decide⟩ (fun sz => kX4_delete_S l hfl D cy sz e0 mi vo sw hm nt nw np nc χ sa nm nd nca NL nα nau nkd nna nth nwe nso g h κ ζ L P dl δ i hχ n7 hP.2.2.1 hP.2.2.2.1 (fun j hj => by have := (hR.2.2.2.1 j hj).2.1; omega) hi c)) (fun r u hr => ⟨hr, fun z => absurd (hr.symm.trans z) (by decide), fun _ => rfl, CI_thr hI0 _⟩)
    · rw [if_neg c, if_neg c]
      have hpl : vq_len P 1022 := fun j hj => by rw [(hP.2.2.2.2.2 j hj).2, List.length_map]; have := (hR.2.2.2.2.2.2.2.2.1 j hj).2.2; omega
      have hq4 : χ (nau i) < 4 := hχ _ (by omega)
      by_cases d : qC χ nkd nth i (χ (nau i))
      · obtain ⟨d1, t, ht, he, hx⟩ := d
        have hz : nso i = 0 := by rw [(hR.2.2.2.2.1 i hi).2.2.2 t ht he, if_pos hx]
        have e9 : ∀ (P : Nat → List Nat) q, sPk P q (nso i) 4 = P := fun P q => by rw [hz]; exact sPk_z P q 4 (by omega)
        refine vm_Qok (kL_delete_ok l D cy sz e0 mi vo (nI i) oa ff w (wJ (uVP vo sw hm nt nw np nc) (wJ (uHM cy hm χ) (wJ (uSV cy sw sa) (wJ (uLO nt nm nd NL) (wJ (La cy nd nca NL) (wJ (pool NL.length (Nc nα nau nkd nna nth nwe nso)) (wJ (pool nc (Ac α fk fp fa ft)) (fam4 (Sv cy sa g h κ ζ L P dl δ))))))))) (Kw cy nw nka nκ nζ) k0 _ hk0 (e.trans (by unfold CW; exact vp_pc (fun n9 hn9 h90 => by simp only [wJ, hn9, h90, Nat.add_zero, Nat.zero_add] <;> ac_rfl))) _ _ ⟨rfl, rfl, by decide, by decide, by decide, by decide⟩ (fun sz => kX4_delete l D cy sz e0 mi vo sw hm nt nw np nc χ sa nm nd nca NL nα nau nkd nna nth nwe nso α fk fp fa ft g h κ ζ L P dl δ i (fun q => sPk P q (nwe i &&& (kBit (χ (nau i)) ^^^ (-1))) 4) hχ n7 hP.2.2.1 hP.2.2.2.1 (fun j hj => by have := (hR.2.2.2.1 j hj).2.1; omega) hi (by omega) hok hP.2.1 hLe.1 hLe.2 (RR_dn hR hq4 (by omega)) (Bool.eq_false_iff.mpr c) (fun q => by rw [he]; exact vSO_P (vSO_y9 _ _ _ _ _ _ _ _ _ _ _ _ _ _ _ _ _ _ _ _ _ _ _ _ _ _ _ _ nm nd nca NL (nα i) (nau i) (nkd i) (nna i) (nwe i) (nso i) t n2 (by omega) ht hχ (vq_el_new hP.2.1) (sPk_len hpl 4) hP.2.2.1 (hP.2.2.2.1 i hi) hq4 d1 hx) (e9 _ _) rfl))) (fun r u hr => ⟨?_, fun _ => ?_, fun z => absurd hr.1 z, ?_⟩)
        · rw [mAct_0]; exact hr.1
        · show vp_updL ff 0 u.1.toInt64 = _
          rw [hr.2.1, mBits_4 (nwe_lo4 hR hS hi)]
        · exact CI_act_9 hP (RR_0 hR _) (b5_rows h5 rfl) (bS_rows hS rfl rfl) h7 hnc hn hau hi (fun f hf z => by rw [kHas_0 (by omega)] at z; cases z) d1 ht he hx hz hr.2.2 (by unfold CW; exact vp_pc (fun n9 hn9 h90 => by simp only [wJ, hn9, h90, Nat.add_zero, Nat.zero_add] <;> ac_rfl))
      · obtain ⟨t, ht, htc⟩ := nth_t hR hi
        refine vm_Qok (kL_delete_ok l D cy sz e0 mi vo (nI i) oa ff w (wJ (uVP vo sw hm nt nw np nc) (wJ (uHM cy hm χ) (wJ (uSV cy sw sa) (wJ (uLO nt nm nd NL) (wJ (La cy nd nca NL) (wJ (pool NL.length (Nc nα nau nkd nna nth nwe nso)) (wJ (pool nc (Ac α fk fp fa ft)) (fam4 (Sv cy sa g h κ ζ L P dl δ))))))))) (Kw cy nw nka nκ nζ) k0 _ hk0 (e.trans (by unfold CW; exact vp_pc (fun n9 hn9 h90 => by simp only [wJ, hn9, h90, Nat.add_zero, Nat.zero_add] <;> ac_rfl))) _ _ ⟨rfl, rfl, by decide, by decide, by decide, by decide⟩ (fun sz => kX4_delete l D cy sz e0 mi vo sw hm nt nw np nc χ sa nm nd nca NL nα nau nkd nna nth nwe nso α fk fp fa ft g h κ ζ L P dl δ i (fun q => sPk P q (nwe i &&& (kBit (χ (nau i)) ^^^ (-1))) 4) hχ n7 hP.2.2.1 hP.2.2.2.1 (fun j hj => by have := (hR.2.2.2.1 j hj).2.1; omega) hi (by omega) hok hP.2.1 hLe.1 hLe.2 (RR_dn hR hq4 (by omega)) (Bool.eq_false_iff.mpr c) (fun q => vSO_n9 _ _ _ _ _ _ _ _ _ _ _ _ _ _ _ _ _ _ _ _ _ _ _ _ _ _ _ _ nm nd nca NL (nα i) (nau i) (nkd i) (nna i) (nth i) (nwe i) (nso i) t hP.2.2.1 (hP.2.2.2.1 i hi) hq4 hχ ht (htc _ d)))) (fun r u hr => ⟨?_, fun _ => ?_, fun z => absurd hr.1 z, ?_⟩)
        · rw [mAct_0]; exact hr.1
        · show vp_updL ff 0 u.1.toInt64 = _
          rw [hr.2.1, mBits_4 (nwe_lo4 hR hS hi)]
        · exact CI_act_n hP (RR_0 hR _) (b5_rows h5 rfl) (bS_rows hS rfl rfl) h7 hnc hn (by omega) hau (fun z => absurd z (by omega)) (fun _ => hi) (fun f hf z => by rw [kHas_0 (by omega)] at z; cases z) (fun z => absurd z (by omega)) (fun z => d z.2) hr.2.2 (by unfold CW; exact vp_pc (fun n9 hn9 h90 => by simp only [wJ, hn9, h90, Nat.add_zero, Nat.zero_add] <;> ac_rfl))
  · have hT : mDelT μ a = 1 := by rw [mDelT, if_pos hb]
    rw [mDel, mDelR, hT, if_neg (by decide), if_neg (by decide)]
    rw [hR.1.2.2.2.1] at hbad
    exact vm_Qo (fun _ => (ff, w)) (fun _ => rfl) (kL_delete_O l D cy sz e0 mi vo a oa ff w (wJ (uVP vo sw hm nt nw np nc) (uLO nt nm nd NL)) (wJ (uHM cy hm χ) (wJ (uSV cy sw sa) (wJ (Kw cy nw nka nκ nζ) (wJ (La cy nd nca NL) (wJ (pool NL.length (Nc nα nau nkd nna nth nwe nso)) (wJ (pool nc (Ac α fk fp fa ft)) (fam4 (Sv cy sa g h κ ζ L P dl δ)))))))) k0 _ hk0 (e.trans (by unfold CW; exact vp_pc (fun n9 hn9 h90 => by simp only [wJ, hn9, h90, Nat.add_zero, Nat.zero_add] <;> ac_rfl))) ⟨rfl, rfl, by decide, by decide, by decide, by decide⟩ (fun sz => kX4_delete_O l hfl D cy sz e0 mi vo sw hm nt nw np nc nm nd NL a hbad)) (fun r u hr => ⟨hr, fun z => absurd (hr.symm.trans z) (by decide), fun _ => rfl, CI_thr hI0 _⟩)
