/-! the servers that are told are four -/
def lo4 (x : Int32) : Prop := ∀ q, 4 ≤ q → q < 32 → kHas x q = false
theorem lo4_0 : lo4 0 := fun q _ h => kHas_0 h
theorem lo4_or {x y : Int32} (h : lo4 x) (h2 : lo4 y) : lo4 (x ||| y) := fun q a b => by rw [kHas_or _ _ b, h q a b, h2 q a b]; rfl
theorem lo4_and {x : Int32} (h : lo4 x) (y : Int32) : lo4 (x &&& y) := fun q a b => by rw [kHas_and _ _ b, h q a b]; rfl
theorem lo4_bit {n : Nat} (h : n < 4) : lo4 (kBit n) := fun q a b => by rw [kHas_bit (by omega) b]; exact decide_eq_false (by omega)
theorem jIbc_16 : ∀ b : Fin 16, mBits (nI b.val) 4 = jIbc (nI b.val) := by decide +kernel
theorem mBits_4 {x : Int32} (h : lo4 x) : mBits x 4 = jIbc x := by
  obtain ⟨b, rfl⟩ := sm10 (fun q a c => h q (by omega) c)
  have hb : b.val < 16 := by
    apply Nat.lt_pow_two_of_testBit (n := 4)
    intro i hi
    by_cases c : i < 32
    · have := h i hi c
      rw [kHas_bv _ c] at this
      have e : (nI b.val).toBitVec.toNat = b.val := by
        show (BitVec.ofNat 32 b.val).toNat = _
        rw [BitVec.toNat_ofNat]
        exact Nat.mod_eq_of_lt (by have := b.isLt; omega)
      rw [BitVec.getLsbD, e] at this
      exact this
    · exact Nat.testBit_lt_two_pow (Nat.lt_of_lt_of_le b.isLt (Nat.le_trans (by decide : 1024 ≤ 2 ^ 32) (Nat.pow_le_pow_right (by omega) (by omega))))
  exact jIbc_16 ⟨b.val, hb⟩
def bS (μ : Nat → Nat → Int32) : Prop := (∀ j, lo4 (μ 16 j)) ∧ ∀ j, lo4 (μ 9 j)
theorem bS_rows {μ μ' : Nat → Nat → Int32} (h : bS μ) (e : μ' 16 = μ 16) (e2 : μ' 9 = μ 9) : bS μ' := ⟨fun j => by rw [e]; exact h.1 j, fun j => by rw [e2]; exact h.2 j⟩
theorem mSvr_lo4 {μ : Nat → Nat → Int32} (hw : ∀ j, j < 10 → isN (μ 2 j) 4) (s p : Nat) : ∀ n, n ≤ 10 → lo4 (mSvr μ s p n)
  | 0, _ => lo4_0
  | n + 1, hn => by
    rw [mSvr]
    refine lo4_or (mSvr_lo4 hw s p n (by omega)) ?_
    split
    · exact lo4_0
    · obtain ⟨e1, e2⟩ := hw n (by omega)
      rw [e1]
      exact lo4_bit e2
theorem mSet_lo4 {μ : Nat → Nat → Int32} (hw : mWF μ) (s n : Nat) : lo4 (mSet μ s n) := by
  rw [mSet, mSrv]
  exact lo4_and (lo4_and (lo4_and (mSvr_lo4 hw.2.1 s _ _ (by have := hw.1.2; omega)) _) _) _
theorem bS_sdo {μ : Nat → Nat → Int32} (h : bS μ) (hw : mWF μ) (s : Nat) (act : Int32) (n : Nat) : bS (mSdo μ s act n) := by
  rw [mSdo]
  split
  · exact h
  · refine bS_rows (μ := va_up μ 9 (upd (μ 9) (50 * s + n) (mSet μ s n))) ⟨h.1, fun j => ?_⟩ (mSnd_k _ _ _ (by decide) (by decide) 4) (mSnd_k _ _ _ (by decide) (by decide) 4)
    rw [va_up_self]
    by_cases c : j = 50 * s + n
    · rw [c, upd_same]; exact mSet_lo4 hw s n
    · rw [upd_ne _ _ c]; exact h.2 j
theorem bS_do {μ : Nat → Nat → Int32} (h : bS μ) (hw : mWF μ) (s a : Nat) : bS (mDo μ s a) := by
  rw [mDo]
  split
  · rw [mDoP]
    split
    · apply bS_sdo
      · exact bS_rows (μ := μ) h rfl rfl
      · exact mWF_rows (μ := μ) hw rfl rfl rfl rfl rfl rfl rfl
    · split
      · split
        · exact bS_rows (μ := μ) h rfl rfl
        · exact bS_rows (μ := μ) h (by rw [mSnd_k _ _ _ (by decide) (by decide) 4]; rfl) (by rw [mSnd_k _ _ _ (by decide) (by decide) 4]; rfl)
      · exact bS_rows (μ := μ) h rfl rfl
  · exact bS_rows (μ := μ) h (by rw [mDo1_k _ _ _ _ _ _ (by decide) (by decide) (by decide) (by decide)]; rfl) (by rw [mDo1_k _ _ _ _ _ _ (by decide) (by decide) (by decide) (by decide)]; rfl)
theorem bS_act {μ : Nat → Nat → Int32} (h : bS μ) (hw : mWF μ) {k p q : Nat} (td sv : Int32) (hk : k < 11) (hp : p < 10) (hq : q < 50) (h8 : k < 8 → q < 10) : bS (mAct μ k p q td sv) := by
  rw [mAct]
  exact bS_do (bS_rows (μ := μ) h (by rw [mSnd_k _ _ _ (by decide) (by decide) 4]; rfl) (by rw [mSnd_k _ _ _ (by decide) (by decide) 4]; rfl)) (mWF_snd _ _ _ 4 (mWF_act0 μ td hw hk hp hq h8)) _ _
theorem nwe_lo4 {np nc nn : Nat} {χ nau : Nat → Nat} {nkd nna nth nwe nso : Nat → Int32} {fk fp fa : Nat → Nat} {ft : Nat → Int32} {κ : Nat → Nat → Nat → Int32} {ζ : Nat → Nat → Nat → Int64} {lI pI : Nat → List Nat} {dl : Nat → Nat} {δ : Nat → Nat → Int32} {μ : Nat → Nat → Int32} {N : Nat} (h : RR np nc nn χ nau nkd nna nth nwe nso fk fp fa ft κ ζ lI pI dl δ μ N) (hb : bS μ) {n : Nat} (hn : n < nn) : lo4 (nwe n) := by
  rw [(h.2.2.2.2.1 n hn).2.1]
  exact lo4_or (hb.1 _) (hb.2 _)
/-! a new post -/
theorem mToR_ho {μ : Nat → Nat → Int32} {χ : Nat → Nat} (hχ : ∀ j, j < 10 → μ 2 j = nI (χ j)) (a : Int32) : ∀ q x, q ≤ 10 → mToR μ a q x = x ||| kHo χ a q
  | 0, x, _ => by rw [mToR, kHo, or_0]
  | q + 1, x, hq => by
    rw [mToR, mToR_ho hχ a q x (by omega), kHo, hχ q (by omega)]
    have e : (1 : Int32) <<< (nI (χ q) &&& 31) = kBit (χ q) := rfl
    rw [e]
    by_cases c : kHas a q = true
    · rw [if_pos ((kHas_1 _ _).mp c), if_pos c, Int32.or_assoc]
    · rw [if_neg (fun z => c ((kHas_1 _ _).mpr z)), if_neg c, or_0]
theorem named_np {a : Int32} {np : Nat} (hn : np ≤ 10) (h0 : ¬ a < 0) : a >>> (nI np &&& 31) = 0 ↔ mIn a 0 ((1 : Int32) <<< (nI np &&& 31) - 1) = true := by
  have h0' : 0 ≤ a.toInt := by
    rw [Int32.lt_iff_toInt_lt, show (0 : Int32).toInt = 0 from rfl] at h0
    omega
  have e1 : (a >>> (nI np &&& 31)).toInt = a.toInt / 2 ^ np := by
    show (a >>> (nI np &&& 31)).toBitVec.toInt = _
    rw [jb_sh a (by omega), BitVec.toInt_sshiftRight, Int.shiftRight_eq_div_pow]
    rfl
  have e2 : ∀ k : Fin 11, ((1 : Int32) <<< (nI k.val &&& 31) - 1).toInt = 2 ^ k.val - 1 := by decide +kernel
  have e3 : ((1 : Int32) <<< (nI np &&& 31) - 1).toInt = 2 ^ np - 1 := e2 ⟨np, by omega⟩
  simp only [mIn, Bool.and_eq_true, decide_eq_true_eq, Int32.le_iff_toInt_le, show (0 : Int32).toInt = 0 from rfl]
  rw [e3]
  have hp : (0 : Int) < 2 ^ np := Int.pow_pos (by decide)
  constructor
  · intro h
    have h9 := congrArg Int32.toInt h
    rw [e1, show (0 : Int32).toInt = 0 from rfl] at h9
    have h7 := Int.emod_lt_of_pos a.toInt hp
    have h8 := Int.mul_ediv_add_emod a.toInt (2 ^ np)
    rw [h9, Int.mul_zero] at h8
    omega
  · intro h
    apply Int32.toInt_inj.mp
    rw [e1, Int.ediv_eq_zero_of_lt h0' (by omega)]
    rfl
