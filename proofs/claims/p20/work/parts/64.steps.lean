/-! an act is registered, sent, and done at home -/
theorem RR_0 {np nc nn : Nat} {χ nau : Nat → Nat} {nkd nna nth nwe nso : Nat → Int32} {fk fp fa : Nat → Nat} {ft : Nat → Int32} {κ : Nat → Nat → Nat → Int32} {ζ : Nat → Nat → Nat → Int64} {lI pI : Nat → List Nat} {dl : Nat → Nat} {δ : Nat → Nat → Int32} {μ : Nat → Nat → Int32} {N : Nat} (h : RR np nc nn χ nau nkd nna nth nwe nso fk fp fa ft κ ζ lI pI dl δ μ N) (v : Nat → Int32) : RR np nc nn χ nau nkd nna nth nwe nso fk fp fa ft κ ζ lI pI dl δ (va_up μ 0 v) N := by
  obtain ⟨h0, hW, hA, h2, h3, h4, hS, h6⟩ := h
  exact ⟨h0, hW, hA, h2, h3, h4, fun i hi => qS_rows (hS i hi) ⟨rfl, rfl, rfl, rfl, rfl, rfl, rfl, rfl⟩, q6_rows h6 rfl rfl rfl⟩
theorem RR_dn {np nc nn : Nat} {χ nau : Nat → Nat} {nkd nna nth nwe nso : Nat → Int32} {fk fp fa : Nat → Nat} {ft : Nat → Int32} {κ : Nat → Nat → Nat → Int32} {ζ : Nat → Nat → Nat → Int64} {lI pI : Nat → List Nat} {dl : Nat → Nat} {δ : Nat → Nat → Int32} {μ : Nat → Nat → Int32} {N : Nat} (h : RR np nc nn χ nau nkd nna nth nwe nso fk fp fa ft κ ζ lI pI dl δ μ N) {i : Nat} (hi : i < 4) (hn : nc < 512) : δ i nc = 0 := by
  obtain ⟨h0, hW, hA, h2, h3, h4, hS, h6⟩ := h
  have hD := (hS i hi).2.2.2.1
  rw [hD.1 nc hn]
  exact hD.2.1 nc (Nat.le_refl _) (by omega)
theorem aF_new {fk fp fa : Nat → Nat} {ft : Nat → Int32} {np nn nc : Nat} {μ : Nat → Nat → Int32} {k p q : Nat} {td : Int32} (hA : ∀ a, a < nc → aF fk fp fa ft np nn μ a) (hnc : tn (μ 17 0) = nc) (hk : k < 11) (hp : p < np) (hq : k < 8 → q < np) (hq8 : 8 ≤ k → q < nn) (hf : ∀ f, f < 10 → kHas td f = true → f < np) (a : Nat) (ha : a < nc + 1) : aF (va_up fk nc k) (va_up fp nc p) (va_up fa nc q) (va_up ft nc td) np nn (mAct0 μ k p q td) a := by
  unfold aF
  show (upd (μ 18) (tn (μ 17 0)) (nI k) a = _ ∧ upd (μ 19) (tn (μ 17 0)) (nI p) a = _ ∧ upd (μ 20) (tn (μ 17 0)) (nI q) a = _ ∧ upd (μ 21) (tn (μ 17 0)) td a = _) ∧ _
  rw [hnc]
  by_cases c : a = nc
  · subst c
    simp only [upd_same, va_up_self]
    exact ⟨⟨trivial, trivial, trivial, trivial⟩, hk, hp, hq, hq8, hf⟩
  · simp only [upd_ne _ _ c, va_up_ne _ _ c]
    exact hA a (by omega)
theorem RR_new {np nc nn : Nat} {χ nau : Nat → Nat} {nkd nna nth nwe nso : Nat → Int32} {fk fp fa : Nat → Nat} {ft : Nat → Int32} {κ : Nat → Nat → Nat → Int32} {ζ : Nat → Nat → Nat → Int64} {lI pI : Nat → List Nat} {dl : Nat → Nat} {δ : Nat → Nat → Int32} {μ : Nat → Nat → Int32} {N : Nat} {k p q : Nat} {td : Int32} (h : RR np nc nn χ nau nkd nna nth nwe nso fk fp fa ft κ ζ lI pI dl δ μ N) (hn : nc < 512) (hk : k < 11) (hp : p < np) (hq : k < 8 → q < np) (hq8 : 8 ≤ k → q < nn) (hf : ∀ f, f < 10 → kHas td f = true → f < np) (h8 : k = 8 → (∀ b, b < nc → fk b = 8 → ¬ fa b = q) ∧ ∀ s, s < 4 → μ 9 (50 * s + q) = 0) : RR np (nc + 1) nn χ nau nkd nna nth nwe nso (va_up fk nc k) (va_up fp nc p) (va_up fa nc q) (va_up ft nc td) κ ζ lI pI dl δ (mAct0 μ k p q td) N := by
  obtain ⟨h0, hW, hA, h2, h3, h4, hS, h6⟩ := h
  obtain ⟨⟨n1, n2⟩, n3, ⟨n4, n5⟩, n6, n7⟩ := id h0
  have hnc : tn (μ 17 0) = nc := by rw [n4, tn_nI (by omega)]
  have hq50 : q < 50 := (Nat.lt_or_ge k 8).elim (fun c => by have := hq c; omega) (fun c => by have := hq8 c; omega)
  refine ⟨⟨⟨n1, n2⟩, n3, ⟨?_, by omega⟩, n6, n7⟩, ?_, aF_new hA hnc hk hp hq hq8 hf, h2, h3, ⟨fun s b hs hb hb8 hz => ?_, h4.2.1, fun a b ha hb ha8 hb8 he => ?_⟩, fun i hi => ?_, ?_⟩
  · show nI (tn (μ 17 0) + 1) = nI (nc + 1)
    rw [hnc]
  · exact mWF_act0 μ td hW hk (by omega) hq50 (fun c => by have := hq c; omega)
  · show μ 9 (50 * s + va_up fa nc q b) = 0
    by_cases c : b = nc
    · subst c
      rw [va_up_self] at hb8 ⊢
      exact (h8 hb8).2 s hs
    · rw [va_up_ne _ _ c] at hb8 ⊢
      exact h4.1 s b hs (by omega) hb8 hz
  · by_cases c : a = nc
    · by_cases d : b = nc
      · rw [c, d]
      · exfalso
        subst c
        rw [va_up_self] at ha8 he
        rw [va_up_ne _ _ d] at hb8 he
        exact (h8 ha8).1 b (by omega) hb8 he.symm
    · by_cases d : b = nc
      · exfalso
        subst d
        rw [va_up_self] at hb8 he
        rw [va_up_ne _ _ c] at ha8 he
        exact (h8 hb8).1 a (by omega) ha8 he
      · rw [va_up_ne _ _ c] at ha8 he
        rw [va_up_ne _ _ d] at hb8 he
        exact h4.2.2 a b (by omega) (by omega) ha8 hb8 he
  · obtain ⟨g4, g5, gI, gD, gk, gz⟩ := qS_rows (μ' := mAct0 μ k p q td) (hS i hi) ⟨rfl, rfl, rfl, rfl, rfl, rfl, rfl, rfl⟩
    have hl : ∀ x ∈ lI i, x ≠ nc := fun x hx => by have := ((hS i hi).2.2.2.1.2.2.2 x).mp hx |>.1; omega
    refine ⟨g4, g5, gI, rD_new gD (by omega), ?_, ?_⟩
    · rw [kRep_congr (fk := fk) (fp := fp) (fa := fa) (ft := ft) (lI i) _ (fun x hx => ⟨va_up_ne _ _ (hl x hx), va_up_ne _ _ (hl x hx), va_up_ne _ _ (hl x hx), va_up_ne _ _ (hl x hx)⟩)]
      exact gk
    · rw [zRep_congr (fk := fk) (fp := fp) (fa := fa) (lI i) _ (fun x hx => ⟨va_up_ne _ _ (hl x hx), va_up_ne _ _ (hl x hx), va_up_ne _ _ (hl x hx)⟩)]
      exact gz
  · have g := q6_rows (μ' := mAct0 μ k p q td) h6 rfl rfl rfl
    exact ⟨rP_mono g.1 (by omega), g.2⟩
theorem RR_snd {np nc nn : Nat} {χ nau : Nat → Nat} {nkd nna nth nwe nso : Nat → Int32} {fk fp fa : Nat → Nat} {ft : Nat → Int32} {κ : Nat → Nat → Nat → Int32} {ζ : Nat → Nat → Nat → Int64} {lI pI : Nat → List Nat} {dl : Nat → Nat} {δ : Nat → Nat → Int32} {μ : Nat → Nat → Int32} {N : Nat} {a : Nat} (h : RR np nc nn χ nau nkd nna nth nwe nso fk fp fa ft κ ζ lI pI dl δ μ N) (sv : Int32) (ha : a < nc) (hN : N < 1200) : RR np nc nn χ nau nkd nna nth nwe nso fk fp fa ft κ ζ lI (sPk pI a sv 4) dl δ (mSnd μ (nI a) sv 4) (N + 1) := by
  obtain ⟨h0, hW, hA, h2, h3, h4, hS, h6⟩ := h
  have e : ∀ r, r ≠ 23 → r ≠ 25 → mSnd μ (nI a) sv 4 r = μ r := fun r h1 h2 => mSnd_k _ _ _ h1 h2 4
  refine ⟨?_, mWF_snd μ (nI a) sv 4 hW, fun b hb => ?_, ?_, ?_, ?_, fun i hi => qS_rows (hS i hi) (eqR_of fun r _ h1 h2 => e r h1 h2), q6_snd sv h6 ha h0.2.2.1.2 hN⟩
  · unfold q0; rw [e 1 (by decide) (by decide), e 2 (by decide) (by decide), e 17 (by decide) (by decide), e 11 (by decide) (by decide)]; exact h0
  · unfold aF; rw [e 18 (by decide) (by decide), e 19 (by decide) (by decide), e 20 (by decide) (by decide), e 21 (by decide) (by decide)]; exact hA b hb
  · unfold q2; rw [e 12 (by decide) (by decide), e 13 (by decide) (by decide), e 14 (by decide) (by decide), e 15 (by decide) (by decide)]; exact h2
  · unfold q3; rw [e 9 (by decide) (by decide), e 16 (by decide) (by decide)]; exact h3
  · unfold q4; rw [e 9 (by decide) (by decide)]; exact h4
theorem RR_pre {np nc nn : Nat} {χ nau : Nat → Nat} {nkd nna nth nwe nso : Nat → Int32} {fk fp fa : Nat → Nat} {ft : Nat → Int32} {κ : Nat → Nat → Nat → Int32} {ζ : Nat → Nat → Nat → Int64} {lI pI : Nat → List Nat} {dl : Nat → Nat} {δ : Nat → Nat → Int32} {μ : Nat → Nat → Int32} {N : Nat} {k p q : Nat} {td sv : Int32} (h : RR np nc nn χ nau nkd nna nth nwe nso fk fp fa ft κ ζ lI pI dl δ μ N) (hn : nc < 512) (hk : k < 11) (hp : p < np) (hq : k < 8 → q < np) (hq8 : 8 ≤ k → q < nn) (hf : ∀ f, f < 10 → kHas td f = true → f < np) (h8 : k = 8 → (∀ b, b < nc → fk b = 8 → ¬ fa b = q) ∧ ∀ s, s < 4 → μ 9 (50 * s + q) = 0) (hN : N < 1200) : RR np (nc + 1) nn χ nau nkd nna nth nwe nso (va_up fk nc k) (va_up fp nc p) (va_up fa nc q) (va_up ft nc td) κ ζ lI (sPk pI nc (sv &&& (kBit (χ p) ^^^ (-1))) 4) dl δ (mSnd (mAct0 μ k p q td) (nI nc) (sv &&& (kBit (χ p) ^^^ (-1))) 4) (N + 1) ∧ mAct μ k p q td sv = mDo (mSnd (mAct0 μ k p q td) (nI nc) (sv &&& (kBit (χ p) ^^^ (-1))) 4) (χ p) nc ∧ χ p < 4 ∧ δ (χ p) nc = 0 := by
  have h1 := RR_snd (a := nc) (RR_new h hn hk hp hq hq8 hf h8) (sv &&& (kBit (χ p) ^^^ (-1))) (by omega) hN
  have hd := fun (i : Nat) (hi : i < 4) => RR_dn h hi hn
  obtain ⟨⟨⟨n1, n2⟩, n3, ⟨n4, n5⟩, n6, n7⟩, -⟩ := h
  have hnc : tn (μ 17 0) = nc := by rw [n4, tn_nI (by omega)]
  have hx := n3 p (by omega)
  have hxt : tn (μ 2 p) = χ p := by rw [hx.1, tn_nI (by omega)]
  exact ⟨h1, by rw [mAct, hnc, hxt]; rfl, hx.2, hd _ hx.2⟩
theorem RR_act_n {np nc nn : Nat} {χ nau : Nat → Nat} {nkd nna nth nwe nso : Nat → Int32} {fk fp fa : Nat → Nat} {ft : Nat → Int32} {κ : Nat → Nat → Nat → Int32} {ζ : Nat → Nat → Nat → Int64} {lI pI : Nat → List Nat} {dl : Nat → Nat} {δ : Nat → Nat → Int32} {μ : Nat → Nat → Int32} {N : Nat} {k p q : Nat} {td sv : Int32} (h : RR np nc nn χ nau nkd nna nth nwe nso fk fp fa ft κ ζ lI pI dl δ μ N) (hn : nc < 512) (hk : k < 11) (hp : p < np) (hq : k < 8 → q < np) (hq8 : 8 ≤ k → q < nn) (hf : ∀ f, f < 10 → kHas td f = true → f < np) (h8 : k = 8 → (∀ b, b < nc → fk b = 8 → ¬ fa b = q) ∧ ∀ s, s < 4 → μ 9 (50 * s + q) = 0) (hN : N < 1200) (hc : ¬ ((k = 8 ∨ k = 9) ∧ qC χ nkd nth q (χ p))) : RR np (nc + 1) nn χ nau nkd nna nth nwe nso (va_up fk nc k) (va_up fp nc p) (va_up fa nc q) (va_up ft nc td) (va_up κ (χ p) (kLearn (κ (χ p)) k p q td)) (va_up ζ (χ p) (zLearn (ζ (χ p)) k p q)) (va_up lI (χ p) (lI (χ p) ++ [nc])) (sPk pI nc (sv &&& (kBit (χ p) ^^^ (-1))) 4) dl (va_up δ (χ p) (upd (δ (χ p)) nc 1)) (mAct μ k p q td sv) (N + 1) := by
  obtain ⟨h1, h2, h3, h4⟩ := RR_pre (sv := sv) h hn hk hp hq hq8 hf h8 hN
  rw [h2]
  have h5 := RR_do_n (a := nc) h1 h3 (by omega) h4 (by rw [va_up_self, va_up_self]; exact hc)
  simp only [va_up_self] at h5
  exact h5
theorem RR_act_9 {np nc nn : Nat} {χ nau : Nat → Nat} {nkd nna nth nwe nso : Nat → Int32} {fk fp fa : Nat → Nat} {ft : Nat → Int32} {κ : Nat → Nat → Nat → Int32} {ζ : Nat → Nat → Nat → Int64} {lI pI : Nat → List Nat} {dl : Nat → Nat} {δ : Nat → Nat → Int32} {μ : Nat → Nat → Int32} {N : Nat} {p q t : Nat} {td sv : Int32} (h : RR np nc nn χ nau nkd nna nth nwe nso fk fp fa ft κ ζ lI pI dl δ μ N) (hn : nc < 512) (hk : 9 < 11) (hp : p < np) (hq : 9 < 8 → q < np) (hq8 : 8 ≤ 9 → q < nn) (hf : ∀ f, f < 10 → kHas td f = true → f < np) (h8 : 9 = 8 → (∀ b, b < nc → fk b = 8 → ¬ fa b = q) ∧ ∀ s, s < 4 → μ 9 (50 * s + q) = 0) (hN : N < 1199) (hkd : nkd q = 0) (ht : t < 10) (he : nth q = nI t) (hx : χ t = χ p) : RR np (nc + 1) nn χ nau nkd nna nth nwe nso (va_up fk nc 9) (va_up fp nc p) (va_up fa nc q) (va_up ft nc td) (va_up κ (χ p) (kLearn (κ (χ p)) 9 p q td)) (va_up ζ (χ p) (zLearn (ζ (χ p)) 9 p q)) (va_up lI (χ p) (lI (χ p) ++ [nc])) (sPk (sPk pI nc (sv &&& (kBit (χ p) ^^^ (-1))) 4) nc (nso q) 4) dl (va_up δ (χ p) (upd (δ (χ p)) nc 1)) (mAct μ 9 p q td sv) (N + 2) := by
  obtain ⟨h1, h2, h3, h4⟩ := RR_pre (sv := sv) h hn hk hp hq hq8 hf h8 (by omega)
  rw [h2]
  have h5 := RR_do_9 (a := nc) h1 h3 (by omega) h4 (by rw [va_up_self]) (by rw [va_up_self]; exact hkd) ht (by rw [va_up_self]; exact he) hx (by omega)
  simp only [va_up_self] at h5
  exact h5
theorem RR_act_8 {np nc nn : Nat} {χ nau : Nat → Nat} {nkd nna nth nwe nso : Nat → Int32} {fk fp fa : Nat → Nat} {ft : Nat → Int32} {κ : Nat → Nat → Nat → Int32} {ζ : Nat → Nat → Nat → Int64} {lI pI : Nat → List Nat} {dl : Nat → Nat} {δ : Nat → Nat → Int32} {μ : Nat → Nat → Int32} {N : Nat} {p q t : Nat} {td sv : Int32} (h : RR np nc nn χ nau nkd nna nth nwe nso fk fp fa ft κ ζ lI pI dl δ μ N) (hn : nc < 512) (hk : 8 < 11) (hp : p < np) (hq : 8 < 8 → q < np) (hq8 : 8 ≤ 8 → q < nn) (hf : ∀ f, f < 10 → kHas td f = true → f < np) (h8 : 8 = 8 → (∀ b, b < nc → fk b = 8 → ¬ fa b = q) ∧ ∀ s, s < 4 → μ 9 (50 * s + q) = 0) (hN : N < 1199) (hkd : nkd q = 0) (ht : t < 10) (he : nth q = nI t) (hx : χ t = χ p) : RR np (nc + 1) nn χ nau nkd nna nth (va_up nwe q (rWe χ (χ p) (nau q) (nwe q) (rTo2 χ (κ (χ p)) t (χ p) (nau q) np (nwe q)))) (va_up nso q (rSo χ (χ p) (nau q) (nso q) (rTo2 χ (κ (χ p)) t (χ p) (nau q) np (nwe q)))) (va_up fk nc 8) (va_up fp nc p) (va_up fa nc q) (va_up ft nc td) (va_up κ (χ p) (kLearn (κ (χ p)) 8 p q td)) (va_up ζ (χ p) (zLearn (ζ (χ p)) 8 p q)) (va_up lI (χ p) (lI (χ p) ++ [nc])) (sPk (sPk pI nc (sv &&& (kBit (χ p) ^^^ (-1))) 4) nc (rTo2 χ (κ (χ p)) t (χ p) (nau q) np (nwe q)) 4) dl (va_up δ (χ p) (upd (δ (χ p)) nc 1)) (mAct μ 8 p q td sv) (N + 2) := by
  obtain ⟨h1, h2, h3, h4⟩ := RR_pre (sv := sv) h hn hk hp hq hq8 hf h8 (by omega)
  rw [h2]
  have h5 := RR_do_8 (a := nc) h1 h3 (by omega) h4 (by rw [va_up_self]) (by rw [va_up_self]; exact hkd) ht (by rw [va_up_self]; exact he) hx (by omega)
  simp only [va_up_self] at h5
  exact h5
