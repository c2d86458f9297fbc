/-! p20: the law: what holds at its entry and in its loop -/
theorem vQ_d {p : Program} {l : Launch} {e : Env} {R : Room} {s : State} {m : MethodId} {args : Array Value} {below : List Frame} {meth : Method} {c : Code} {H : Heap} {locs : List Loc} {cells slots : Nat} {Q : State → Prop} {pc : Nat} {ls : Array Slot} {rest st0 : List Value} {D : va_G} {A0 : Nat → Prop} {H0 : Heap} {ar : Array Value} {S : Type} {post : Int32 → S → Prop} {ws : va_W} (hr : va_Run p l e R s m args below meth c H locs cells slots 0 0 (F0 m pc ls st0) rest (vg_Qi (S := S) D H.size ([] : va_W) post (fun _ => ([] : va_W)) ar) (va_A ([] : va_W) H.size)) (hP : va_P D vwCl ws H) (hD : va_D A0 ws) (hS : va_S A0 H0 H locs) (hA : ∀ q, H0.size ≤ q → A0 q)
    (kk : ∀ (r : Int32) (u : S) (H1 : Heap) (locs1 : List Loc), post r u → va_P D vwCl ws H1 → va_D A0 ws → va_S A0 H0 H1 locs1 → W p l e R s m args below meth c H1 locs1 cells slots Q (F0 m (pc + 3) ls (.int r :: rest))) : W p l e R s m args below meth c H locs cells slots Q (F0 m pc ls st0) := vj_calli hr hP hD hS hA (List.Perm.refl _) kk
def uA (cy : Nat → ClassId) (ha ra ga : Nat) (hf af gf : Nat → Int32) : va_W := [(ha, .inl (cy 0, 6, .inl hf)), (ra, .inl (cy 0, 20, .inl af)), (ga, .inl (cy 0, 20, .inl gf))]
def LE (p : Program) (l : Launch) (s : State) (m : MethodId) (c : Code) (b L : Nat) (xs : Nat → Int32) (A0 : Nat → Prop) (D : va_G) (cy : Nat → ClassId) (e0 mi : Nat) : Prop := (p.tables.exec = Jvm.exec ∧ c.code = cL_law ∧ c.maxLocals = 23 ∧ s.vm.findClass RL = some m.cls ∧ ∀ w ∈ wsL_law, w.before #[Value.ref b] s = true) ∧ (va_X b L xs s s.heap ∧ b < s.heap.size ∧ L ≤ 260 ∧ l.stackTraces = false ∧ (∀ q : Nat, s.heap.size ≤ q → A0 q) ∧ ¬ A0 b) ∧ vg_E D cy s ∧ vh_F mi s ∧ vh_Z cy e0 A0 s s.heap
/-- the three arrays against the state: homes, authors, what is gone -/
def LA3 (hf af gf : Nat → Int32) (μ : Nat → Nat → Int32) (nn : Nat) : Prop := (∀ j, j < 6 → hf j = nI (tn (μ 2 j))) ∧ (∀ j, j < nn → af j = nI (tn (μ 12 j))) ∧ ∀ j, j < 20 → (gf j = 0 ↔ ¬ GN μ j)
def LW (s : State) (A0 : Nat → Prop) (D : va_G) (cy : Nat → ClassId) (e0 vo ha ra ga : Nat) (hf af gf : Nat → Int32) (μ : Nat → Nat → Int32) (nn nc : Nat) (w : va_W) (H : Heap) (locs : List Loc) : Prop := va_P D vwCl (wJ (uA cy ha ra ga hf af gf) w) H ∧ va_D A0 (wJ (uA cy ha ra ga hf af gf) w) ∧ va_S A0 s.heap H locs ∧ KK cy e0 vo μ nn nc w ∧ LA3 hf af gf μ nn
theorem LA3_SM {hf af gf : Nat → Int32} {μ μ' : Nat → Nat → Int32} {nn : Nat} (h : LA3 hf af gf μ nn) (hs : SM μ μ') : LA3 hf af gf μ' nn := by
  obtain ⟨h1, h2, h3⟩ := h
  obtain ⟨s1, s2, s3⟩ := hs
  refine ⟨fun j hj => by rw [s1]; exact h1 j hj, fun j hj => by rw [s2]; exact h2 j hj, fun j hj => ?_⟩
  rw [h3 j hj, s3 j (by omega)]
theorem nI_1b : (nI 1 : Int32) = bI true := rfl
theorem nI_0b : (nI 0 : Int32) = bI false := rfl
