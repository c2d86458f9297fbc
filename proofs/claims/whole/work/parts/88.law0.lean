/-! the law: what holds at its entry and at its loop's head -/
def LE (p : Program) (l : Launch) (s : State) (m : MethodId) (c : Code) (b L : Nat) (xs : Nat → Int32) (A0 : Nat → Prop) (D : va_G) (cy : Nat → ClassId) (e0 mi : Nat) : Prop := (p.tables.exec = Jvm.exec ∧ c.code = cL_law ∧ c.maxLocals = 7 ∧ s.vm.findClass RL = some m.cls ∧ ∀ w ∈ wsL_law, w.before #[Value.ref b] s = true) ∧ (va_X b L xs s s.heap ∧ b < s.heap.size ∧ L ≤ 2560 ∧ l.stackTraces = false ∧ (∀ q : Nat, s.heap.size ≤ q → A0 q) ∧ ¬ A0 b) ∧ vg_E D cy s ∧ vh_F mi s ∧ vh_Z cy e0 A0 s s.heap ∧ vk_N s
def LW (s : State) (A0 : Nat → Prop) (D : va_G) (cy : Nat → ClassId) (e0 vo mo oa n : Nat) (ad : Nat → Nat) (μ : Nat → Nat → Int32) (f : Nat → Int64) (w : va_W) (H : Heap) (locs : List Loc) : Prop := va_P D vwCl (wJ (uOut cy oa f) (wJ (Mw cy mo ad μ) w)) H ∧ va_D A0 (wJ (uOut cy oa f) (wJ (Mw cy mo ad μ) w)) ∧ va_S A0 s.heap H locs ∧ CI cy e0 vo n μ w
theorem CI_ref {cy : Nat → ClassId} {e0 vo n : Nat} {μ : Nat → Nat → Int32} {w : va_W} (h : CI cy e0 vo n μ w) (hn : n < 512) : mWF μ ∧ mLast μ 1199 ∧ isN (μ 17 0) 600 ∧ isN (μ 11 0) 51 ∧ (∀ j, j < 4 → isN (μ 24 j) 1201 ∧ tn (μ 24 j) ≤ tn (μ 25 j)) ∧ ∀ j, j < 4800 → isN (μ 23 j) 600 := by
  obtain ⟨sv, hm, nt, nw, np, nc, χ, sa, nm, nd, nca, NL, nka, nκ, nζ, nα, nau, nkd, nna, nth, nwe, nso, α, fk, fp, fa, ft, g, h, κ, ζ, L, P, lI, pI, dl, δ, e, hP, hR, q⟩ := h
  obtain ⟨r1, r2, r3, r4⟩ := RR_mLast hR (by omega)
  exact ⟨hR.2.1, r1, r2, r3, r4, hR.2.2.2.2.2.2.2.2.2⟩
theorem lg_cmp_0 (x : Int64) : lg_cmp x x = 0 := by
  unfold lg_cmp
  simp
