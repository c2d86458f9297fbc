/-! the class's whole world -/
def CW (cy : Nat → ClassId) (vo sv hm nt nw np nc : Nat) (χ sa : Nat → Nat) (nm nd nca : Nat) (NL : List Nat) (nka : Nat → Nat) (nκ : Nat → Nat → Int32) (nζ : Nat → Nat → Int64) (nα nau : Nat → Nat) (nkd nna nth nwe nso : Nat → Int32) (α fk fp fa : Nat → Nat) (ft : Nat → Int32) (g h : Nat → Nat → Nat) (κ : Nat → Nat → Nat → Int32) (ζ : Nat → Nat → Nat → Int64) (L P : Nat → List Nat) (dl : Nat → Nat) (δ : Nat → Nat → Int32) : va_W := wJ (uVP vo sv hm nt nw np nc) (wJ (uHM cy hm χ) (wJ (uSV cy sv sa) (wJ (uLO nt nm nd NL) (wJ (Kw cy nw nka nκ nζ) (wJ (La cy nd nca NL) (wJ (pool NL.length (Nc nα nau nkd nna nth nwe nso)) (wJ (pool nc (Ac α fk fp fa ft)) (fam4 (Sv cy sa g h κ ζ L P dl δ)))))))))
/-- what must hold of the places -/
def CP (e0 nc nd nca : Nat) (NL : List Nat) (nα nau : Nat → Nat) (nkd nna nth nwe nso : Nat → Int32) (α fk fp fa : Nat → Nat) (ft : Nat → Int32) (h : Nat → Nat → Nat) (L P lI pI : Nat → List Nat) : Prop := vq_ok e0 h L P ∧ vq_el L P (pool nc (Ac α fk fp fa ft)) ∧ vl_ok e0 nd nca NL ∧ (∀ j, j < NL.length → NL[j]? = some (nα j)) ∧ vl_el NL (pool NL.length (Nc nα nau nkd nna nth nwe nso)) 3 ∧ ∀ i, i < 4 → L i = (lI i).map α ∧ P i = (pI i).map α
def CI (cy : Nat → ClassId) (e0 vo n : Nat) (μ : Nat → Nat → Int32) (w : va_W) : Prop := ∃ (sv hm nt nw np nc : Nat) (χ sa : Nat → Nat) (nm nd nca : Nat) (NL : List Nat) (nka : Nat → Nat) (nκ : Nat → Nat → Int32) (nζ : Nat → Nat → Int64) (nα nau : Nat → Nat) (nkd nna nth nwe nso : Nat → Int32) (α fk fp fa : Nat → Nat) (ft : Nat → Int32) (g h : Nat → Nat → Nat) (κ : Nat → Nat → Nat → Int32) (ζ : Nat → Nat → Nat → Int64) (L P lI pI : Nat → List Nat) (dl : Nat → Nat) (δ : Nat → Nat → Int32), w.Perm (CW cy vo sv hm nt nw np nc χ sa nm nd nca NL nka nκ nζ nα nau nkd nna nth nwe nso α fk fp fa ft g h κ ζ L P dl δ) ∧ CP e0 nc nd nca NL nα nau nkd nna nth nwe nso α fk fp fa ft h L P lI pI ∧ RR np nc NL.length χ nau nkd nna nth nwe nso fk fp fa ft κ ζ lI pI dl δ μ (2 * n) ∧ b5 μ ∧ bS μ ∧ q7 pI dl δ ∧ nc ≤ n
theorem nodup_len : ∀ (n : Nat) (l : List Nat), l.Nodup → (∀ x ∈ l, x < n) → l.length ≤ n
  | 0, l, _, h => by
    cases l with
    | nil => exact Nat.le_refl _
    | cons a l => exact absurd (h a List.mem_cons_self) (Nat.not_lt_zero _)
  | n + 1, l, hd, h => by
    have h1 := nodup_len n (l.erase n) (hd.erase n) (fun x hx => by
      have hm := (List.Nodup.mem_erase_iff hd).mp hx
      have := h x hm.2
      have := hm.1
      omega)
    by_cases c : n ∈ l
    · rw [List.length_erase_of_mem c] at h1
      have : 0 < l.length := List.length_pos_of_mem c
      omega
    · rw [List.erase_of_not_mem c] at h1
      omega
theorem RR_len {np nc nn : Nat} {χ nau : Nat → Nat} {nkd nna nth nwe nso : Nat → Int32} {fk fp fa : Nat → Nat} {ft : Nat → Int32} {κ : Nat → Nat → Nat → Int32} {ζ : Nat → Nat → Nat → Int64} {lI pI : Nat → List Nat} {dl : Nat → Nat} {δ : Nat → Nat → Int32} {μ : Nat → Nat → Int32} {N : Nat} (h : RR np nc nn χ nau nkd nna nth nwe nso fk fp fa ft κ ζ lI pI dl δ μ N) (α : Nat → Nat) (hN : N ≤ 1023) : vq_len (fun i => (lI i).map α) 1023 ∧ vq_len (fun i => (pI i).map α) 1023 := by
  obtain ⟨h0, hW, hA, h2, h3, h4, hS, h6⟩ := h
  refine ⟨fun i hi => ?_, fun i hi => ?_⟩
  · rw [List.length_map]
    have hD := (hS i hi).2.2.2.1
    have := nodup_len nc (lI i) hD.2.2.1 (fun x hx => ((hD.2.2.2 x).mp hx).1)
    have := h0.2.2.1.2
    omega
  · rw [List.length_map]
    have := (h6.2.1 i hi).2.2
    omega
theorem RR_mLast {np nc nn : Nat} {χ nau : Nat → Nat} {nkd nna nth nwe nso : Nat → Int32} {fk fp fa : Nat → Nat} {ft : Nat → Int32} {κ : Nat → Nat → Nat → Int32} {ζ : Nat → Nat → Nat → Int64} {lI pI : Nat → List Nat} {dl : Nat → Nat} {δ : Nat → Nat → Int32} {μ : Nat → Nat → Int32} {N : Nat} (h : RR np nc nn χ nau nkd nna nth nwe nso fk fp fa ft κ ζ lI pI dl δ μ N) (hN : N ≤ 1023) : mLast μ 1199 ∧ isN (μ 17 0) 600 ∧ isN (μ 11 0) 51 ∧ ∀ j, j < 4 → isN (μ 24 j) 1201 ∧ tn (μ 24 j) ≤ tn (μ 25 j) := by
  obtain ⟨h0, hW, hA, h2, h3, h4, hS, h6⟩ := h
  refine ⟨fun j hj => ?_, ?_, ?_, fun j hj => ?_⟩
  · rw [(h6.1 j hj).1]
    exact isN_nI (by have := (h6.2.1 j hj).2.2; omega) (by omega)
  · rw [h0.2.2.1.1]; exact isN_nI (by have := h0.2.2.1.2; omega) (by omega)
  · rw [h0.2.2.2.1]; exact isN_nI (by have := h0.2.2.2.2; omega) (by omega)
  · obtain ⟨g1, g2, g3⟩ := h6.2.1 j hj
    rw [g1, (h6.1 j hj).1, tn_nI (by omega), tn_nI (by omega)]
    exact ⟨isN_nI (by omega) (by omega), g2⟩
