/-! posts, deletions, boosts, what is seen anew -/
theorem mHomF_c {np nc nn : Nat} {χ nau : Nat → Nat} {nkd nna nth nwe nso : Nat → Int32} {fk fp fa : Nat → Nat} {ft : Nat → Int32} {κ : Nat → Nat → Nat → Int32} {ζ : Nat → Nat → Nat → Int64} {lI pI : Nat → List Nat} {dl : Nat → Nat} {δ : Nat → Nat → Int32} {μ : Nat → Nat → Int32} {N : Nat} (h : RR np nc nn χ nau nkd nna nth nwe nso fk fp fa ft κ ζ lI pI dl δ μ N) {p : Nat} (hp : p < np) {w : Nat} (hw : w < 2 ^ 31) : ∀ n b, n ≤ nn → b ≤ w → mHomF μ p n (nI (w - b)) = cHom (fun n9 => kAth (κ (χ p)) (ζ (χ p)) p n9 (nau n9) (nkd n9) (nna n9)) (nI w) n b := by
  intro n
  induction n with
  | zero => intro b _ _; rfl
  | succ n ih =>
    intro b hn hb
    have hn7 := h.1.2.2.2.2
    rw [mHomF, mAtH_RR h hp (by omega)]
    by_cases c : kAth (κ (χ p)) (ζ (χ p)) p n (nau n) (nkd n) (nna n) = true
    · rw [if_pos c]
      by_cases d : b = w
      · subst d
        rw [Nat.sub_self, if_pos (by rfl), cHom_h _ c rfl]
      · have e1 : ¬ nI (w - b) = 0 := by
          intro z
          have h9 := congrArg Int32.toInt z
          rw [nI_toInt (by omega), show (0 : Int32).toInt = 0 from rfl] at h9
          omega
        have e2 : ¬ nI b = nI w := by
          intro z
          have h9 := congrArg Int32.toInt z
          rw [nI_toInt (by omega), nI_toInt (by omega)] at h9
          omega
        have e3 : nI (w - b) + Int32.ofInt (-1) = nI (w - (b + 1)) := by
          rw [show Int32.ofInt (-1) = -1 from by decide, ← Int32.sub_eq_add_neg, show (1 : Int32) = nI 1 from rfl, pk_sub (by omega), Nat.sub_sub]
        rw [if_neg e1, cHom_y _ c e2, e3]
        exact ih (b + 1) (by omega) (by omega)
    · rw [if_neg c, cHom_n _ (Bool.eq_false_iff.mpr c)]
      exact ih b (by omega) hb
theorem mSrv_RR {np nc nn : Nat} {χ nau : Nat → Nat} {nkd nna nth nwe nso : Nat → Int32} {fk fp fa : Nat → Nat} {ft : Nat → Int32} {κ : Nat → Nat → Nat → Int32} {ζ : Nat → Nat → Nat → Int64} {lI pI : Nat → List Nat} {dl : Nat → Nat} {δ : Nat → Nat → Int32} {μ : Nat → Nat → Int32} {N : Nat} (h : RR np nc nn χ nau nkd nna nth nwe nso fk fp fa ft κ ζ lI pI dl δ μ N) {p : Nat} (hp : p < np) : mSrv μ (tn (μ 2 p)) p = kHo χ (kFo (κ (χ p)) p 10) np &&& (kBit (χ p) ^^^ (-1)) := by
  obtain ⟨h0, hW, hA, h2, h3, h4, hS, h6⟩ := h
  have hp10 : p < 10 := by have := h0.1.2; omega
  have hn : tn (μ 1 0) = np := by rw [h0.1.1, tn_nI (by have := h0.1.2; omega)]
  rw [(hom_q0 h0 hp10).1, mSrv_ho (np := np) (hS _ (hom_q0 h0 hp10).2).1 hp10 (fun k hk => (h0.2.1 k hk).1) hn h0.1.2]
theorem mBoo_RR {np nc nn : Nat} {χ nau : Nat → Nat} {nkd nna nth nwe nso : Nat → Int32} {fk fp fa : Nat → Nat} {ft : Nat → Int32} {κ : Nat → Nat → Nat → Int32} {ζ : Nat → Nat → Nat → Int64} {lI pI : Nat → List Nat} {dl : Nat → Nat} {δ : Nat → Nat → Int32} {μ : Nat → Nat → Int32} {N : Nat} (h : RR np nc nn χ nau nkd nna nth nwe nso fk fp fa ft κ ζ lI pI dl δ μ N) {p n : Nat} (hp : p < np) (hn : n < nn) : mBoo μ (nI p) (nI n) = (if ¬ nkd n = 0 ∨ kSee (κ (χ p)) (ζ (χ p)) p n (nau n) (nkd n) (nna n) = false ∨ kHsL (ζ (χ p) 0 p) n = true then va_up μ 0 (fun _ => 2) else mAct (va_up μ 0 (fun _ => 0)) 10 p n 0 (kHo χ (kFo (κ (χ p)) p 10) np ||| kBit (χ (nau n)))) := by
  have hv := mSrv_RR h hp
  have hse := mSeen_RR h hp hn
  obtain ⟨h0, hW, hA, h2, h3, h4, hS, h6⟩ := h
  have hp10 : p < 10 := by have := h0.1.2; omega
  obtain ⟨p1, p2, p3, p4, p5⟩ := h2 n hn
  have hau : nau n < 10 := by have := h0.1.2; omega
  have hn50 : n < 50 := by have := h0.2.2.2.2; omega
  obtain ⟨s4, s5, -⟩ := hS _ (hom_q0 h0 hp10).2
  have e1 : tn (μ 12 n) = nau n := by rw [p1, tn_nI (by omega)]
  have i1 : mIn (nI p) 0 (μ 1 0 - 1) = true := by rw [h0.1.1]; exact mIn_nI (by have := h0.1.2; omega) hp
  have i2 : mIn (nI n) 0 (μ 11 0 - 1) = true := by rw [h0.2.2.2.1]; exact mIn_nI (by have := h0.2.2.2.2; omega) hn
  have hb : (¬ μ 10 (500 * χ p + 50 * p + n) = 0) ↔ kHsL (ζ (χ p) 0 p) n = true := by rw [s5.2.2.1 p n hp10 hn50]; simp
  have hT : mBooT μ (nI p) (nI n) = if ¬ nkd n = 0 ∨ kSee (κ (χ p)) (ζ (χ p)) p n (nau n) (nkd n) (nna n) = false ∨ kHsL (ζ (χ p) 0 p) n = true then 2 else 0 := by
    rw [mBooT, i1, i2, if_neg (by decide), tn_nI (by omega), tn_nI (by omega), hse, p3, (hom_q0 h0 hp10).1]
    simp only [hb]
    by_cases c1 : nkd n = 0 <;> by_cases c2 : kSee (κ (χ p)) (ζ (χ p)) p n (nau n) (nkd n) (nna n) = false <;> simp [c1, c2]
  rw [mBoo, hT]
  by_cases c : ¬ nkd n = 0 ∨ kSee (κ (χ p)) (ζ (χ p)) p n (nau n) (nkd n) (nna n) = false ∨ kHsL (ζ (χ p) 0 p) n = true
  · rw [if_pos c, if_neg (by decide), if_pos c]
  · rw [if_neg c, if_pos rfl, if_neg c, tn_nI (by omega), tn_nI (by omega), e1, mHb_q0 h0 hau, hv]
    exact mAct_mask (np := np) (nc := nc) (nn := nn) (μ := va_up μ 0 (fun _ => 0)) h0 hp10 10 n _ _ _ (or_mask _ _ _)
theorem mDel_RR {np nc nn : Nat} {χ nau : Nat → Nat} {nkd nna nth nwe nso : Nat → Int32} {fk fp fa : Nat → Nat} {ft : Nat → Int32} {κ : Nat → Nat → Nat → Int32} {ζ : Nat → Nat → Nat → Int64} {lI pI : Nat → List Nat} {dl : Nat → Nat} {δ : Nat → Nat → Int32} {μ : Nat → Nat → Int32} {N : Nat} (h : RR np nc nn χ nau nkd nna nth nwe nso fk fp fa ft κ ζ lI pI dl δ μ N) {n : Nat} (hn : n < nn) : mDel μ (nI n) = (if kHsL (ζ (χ (nau n)) 2 0) n = true then va_up μ 0 (fun _ => 2) else mAct (va_up μ 0 (fun _ => 0)) 9 (nau n) n 0 (nwe n)) ∧ mDelR μ (nI n) = (if kHsL (ζ (χ (nau n)) 2 0) n = true then 0 else mBits (nwe n) 4) := by
  obtain ⟨h0, hW, hA, h2, h3, h4, hS, h6⟩ := h
  obtain ⟨p1, p2, p3, p4, p5⟩ := h2 n hn
  have hau : nau n < 10 := by have := h0.1.2; omega
  have hn50 : n < 50 := by have := h0.2.2.2.2; omega
  obtain ⟨s4, s5, -⟩ := hS _ (hom_q0 h0 hau).2
  have e1 : tn (μ 12 n) = nau n := by rw [p1, tn_nI (by omega)]
  have i2 : mIn (nI n) 0 (μ 11 0 - 1) = true := by rw [h0.2.2.2.1]; exact mIn_nI (by have := h0.2.2.2.2; omega) hn
  have hT : mDelT μ (nI n) = if kHsL (ζ (χ (nau n)) 2 0) n = true then 2 else 0 := by
    rw [mDelT, i2, if_neg (by decide), tn_nI (by omega), e1, (hom_q0 h0 hau).1, s5.2.1 n hn50]
    by_cases c : μ 8 (50 * χ (nau n) + n) = 0 <;> simp [c]
  have hs : mDelS μ (nI n) = nwe n := by rw [mDelS, tn_nI (by omega), e1, (hom_q0 h0 hau).1, (h3 n hn).2.1]
  constructor
  · rw [mDel, hT, hs]
    by_cases c : kHsL (ζ (χ (nau n)) 2 0) n = true
    · rw [if_pos c, if_neg (by decide), if_pos c]
    · rw [if_neg c, if_pos rfl, if_neg c, tn_nI (by omega), e1]
  · rw [mDelR, hT, hs]
    by_cases c : kHsL (ζ (χ (nau n)) 2 0) n = true
    · rw [if_pos c, if_neg (by decide), if_pos c]
    · rw [if_neg c, if_pos rfl, if_neg c]
theorem anew_RR {np nc nn : Nat} {χ nau : Nat → Nat} {nkd nna nth nwe nso : Nat → Int32} {fk fp fa : Nat → Nat} {ft : Nat → Int32} {κ : Nat → Nat → Nat → Int32} {ζ : Nat → Nat → Nat → Int64} {lI pI : Nat → List Nat} {dl : Nat → Nat} {δ : Nat → Nat → Int32} {μ : Nat → Nat → Int32} {N : Nat} (h : RR np nc nn χ nau nkd nna nth nwe nso fk fp fa ft κ ζ lI pI dl δ μ N) (nκ : Nat → Nat → Int32) (nζ : Nat → Nat → Int64) {p n : Nat} (hp : p < np) (hn : n < nn) : kSee (kRep fk fp fa ft (kFg nκ 10) (lI (χ p))) (zRep fk fp fa (zFg0 nζ) (lI (χ p))) p n (nau n) (nkd n) (nna n) = mSeen μ p n := by
  rw [mSeen_RR h hp hn]
  obtain ⟨h0, hW, hA, h2, h3, h4, hS, h6⟩ := h
  have hp10 : p < 10 := by have := h0.1.2; omega
  have hau : nau n < 10 := by have := (h2 n hn).2.1; have := h0.1.2; omega
  obtain ⟨s4, s5, sI, sD, sk, sz⟩ := hS _ (hom_q0 h0 hp10).2
  have hl : ∀ x ∈ lI (χ p), fk x < 11 ∧ fp x < 10 ∧ (fk x < 8 → fa x < 10) := fun x hx => by
    obtain ⟨-, b1, b2, b3, -, -⟩ := hA x ((sD.2.2.2 x).mp hx).1
    have := h0.1.2
    exact ⟨b1, by omega, fun q => by have := b3 q; omega⟩
  exact kSee_eq (kEq_tr (kEq_rep (kEq_fg nκ) _ hl) sk) (zEq_tr (zEq_rep (zEq_fg nζ) _ (fun x hx => (hl x hx).2.1)) sz) hp10 hau
