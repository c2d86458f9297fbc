/-! worlds up to the order of their cells; calls over a part that is some of the cells in any order -/
theorem vp_iff {D : va_G} {cl : List vw_C} {ws : va_W} {H : Heap} : va_P D cl ws H ↔ ∀ q ∈ ws, va_at D cl q H := by
  refine ⟨fun h q hq => ?_, fun h k q hk => h q (List.mem_of_getElem? hk)⟩
  obtain ⟨k, hk⟩ := List.getElem?_of_mem hq
  exact h k q hk
theorem vp_perm {D : va_G} {cl : List vw_C} {ws ws' : va_W} {H : Heap} (h : va_P D cl ws H) (hp : ws.Perm ws') : va_P D cl ws' H := vp_iff.mpr (fun q hq => vp_iff.mp h q (hp.mem_iff.mpr hq))
theorem vp_app {D : va_G} {cl : List vw_C} {w1 w2 : va_W} {H : Heap} : va_P D cl (w1 ++ w2) H ↔ va_P D cl w1 H ∧ va_P D cl w2 H := by
  rw [vp_iff, vp_iff, vp_iff]
  refine ⟨fun h => ⟨fun q hq => h q (List.mem_append_left _ hq), fun q hq => h q (List.mem_append_right _ hq)⟩, fun h q hq => ?_⟩
  rcases List.mem_append.mp hq with z | z
  · exact h.1 q z
  · exact h.2 q z
theorem vd_cons {A : Nat → Prop} {x : Nat × va_E} {l : va_W} : va_D A (x :: l) ↔ A x.1 ∧ (∀ q ∈ l, q.1 ≠ x.1) ∧ va_D A l := by
  constructor
  · intro h
    refine ⟨h.2 0 x rfl, fun q hq e => ?_, fun i j p q hi hj e => ?_, fun k q hk => h.2 (k + 1) q (by rw [List.getElem?_cons_succ]; exact hk)⟩
    · obtain ⟨k, hk⟩ := List.getElem?_of_mem hq
      have := h.1 (k + 1) 0 q x (by rw [List.getElem?_cons_succ]; exact hk) rfl e
      omega
    · have := h.1 (i + 1) (j + 1) p q (by rw [List.getElem?_cons_succ]; exact hi) (by rw [List.getElem?_cons_succ]; exact hj) e
      omega
  · rintro ⟨h1, h2, h3⟩
    refine ⟨fun i j p q hi hj e => ?_, fun k q hk => ?_⟩
    · cases i with
      | zero =>
        cases j with
        | zero => rfl
        | succ j =>
          rw [List.getElem?_cons_zero] at hi
          rw [List.getElem?_cons_succ] at hj
          cases hi
          exact absurd e.symm (h2 q (List.mem_of_getElem? hj))
      | succ i =>
        rw [List.getElem?_cons_succ] at hi
        cases j with
        | zero =>
          rw [List.getElem?_cons_zero] at hj
          cases hj
          exact absurd e (h2 p (List.mem_of_getElem? hi))
        | succ j =>
          rw [List.getElem?_cons_succ] at hj
          rw [h3.1 i j p q hi hj e]
    · cases k with
      | zero =>
        rw [List.getElem?_cons_zero] at hk
        cases hk
        exact h1
      | succ k =>
        rw [List.getElem?_cons_succ] at hk
        exact h3.2 k q hk
theorem vd_perm {A : Nat → Prop} {ws ws' : va_W} (hp : ws.Perm ws') : va_D A ws → va_D A ws' := by
  induction hp with
  | nil => exact id
  | cons x hp ih =>
    intro h
    obtain ⟨h1, h2, h3⟩ := vd_cons.mp h
    exact vd_cons.mpr ⟨h1, fun q hq => h2 q (hp.mem_iff.mpr hq), ih h3⟩
  | swap x y l =>
    intro h
    obtain ⟨h1, h2, h3⟩ := vd_cons.mp h
    obtain ⟨h4, h5, h6⟩ := vd_cons.mp h3
    refine vd_cons.mpr ⟨h4, fun q hq => ?_, vd_cons.mpr ⟨h1, fun q hq => h2 q (List.mem_cons_of_mem _ hq), h6⟩⟩
    rcases List.mem_cons.mp hq with e | hq
    · rw [e]; exact fun z => h2 x List.mem_cons_self z.symm
    · exact h5 q hq
  | trans _ _ ih1 ih2 => exact fun h => ih2 (ih1 h)
theorem vd_mem {A : Nat → Prop} {ws : va_W} (h : va_D A ws) {q : Nat × va_E} (hq : q ∈ ws) : A q.1 := by
  obtain ⟨k, hk⟩ := List.getElem?_of_mem hq
  exact h.2 k q hk
theorem vd_nil {A : Nat → Prop} : va_D A ([] : va_W) := ⟨fun i j p q h => by simp at h, fun k q h => by simp at h⟩
theorem vd_app {A : Nat → Prop} {l1 l2 : va_W} : va_D A (l1 ++ l2) ↔ va_D A l1 ∧ va_D A l2 ∧ ∀ p ∈ l1, ∀ q ∈ l2, p.1 ≠ q.1 := by
  induction l1 with
  | nil => exact ⟨fun h => ⟨vd_nil, h, fun p hp => by simp at hp⟩, fun h => h.2.1⟩
  | cons x l ih =>
    rw [List.cons_append, vd_cons, vd_cons, ih]
    constructor
    · rintro ⟨h1, h2, h3, h4, h5⟩
      refine ⟨⟨h1, fun q hq => h2 q (List.mem_append_left _ hq), h3⟩, h4, fun p hp q hq => ?_⟩
      rcases List.mem_cons.mp hp with e | hp
      · rw [e]; exact fun z => h2 q (List.mem_append_right _ hq) z.symm
      · exact h5 p hp q hq
    · rintro ⟨⟨h1, h2, h3⟩, h4, h5⟩
      refine ⟨h1, fun q hq => ?_, h3, h4, fun p hp q hq => h5 p (List.mem_cons_of_mem _ hp) q hq⟩
      rcases List.mem_append.mp hq with z | z
      · exact h2 q z
      · exact fun e => h5 x List.mem_cons_self q z e.symm
theorem va_A_mem {ws : va_W} {sz : Nat} {q : Nat × va_E} (h : q ∈ ws) : va_A ws sz q.1 := by
  obtain ⟨k, hk⟩ := List.getElem?_of_mem h
  exact va_A.in hk
theorem va_A_perm {ws ws' : va_W} {sz : Nat} (hp : ws.Perm ws') {q : Nat} (h : va_A ws sz q) : va_A ws' sz q := by
  rcases h with ⟨k, e, h⟩ | h
  · exact va_A_mem (q := (q, e)) (hp.mem_iff.mp (List.mem_of_getElem? h))
  · exact Or.inr h
/-- the frame rule: wc the callee's cells, wr the rest -/
theorem vj_join {A0 : Nat → Prop} {D : va_G} {wc wr w1 : va_W} {H H1 : Heap} (hP : va_P D vwCl (wc ++ wr) H) (hD : va_D A0 (wc ++ wr))
    (hk : ∀ q : Nat, q < H.size → ¬ va_A wc H.size q → H1[q]? = H[q]?) (hF : ∀ q, va_A wc H.size q → A0 q) (hP1 : va_P D vwCl w1 H1) (hD1 : va_D (va_A wc H.size) w1) : va_P D vwCl (w1 ++ wr) H1 ∧ va_D A0 (w1 ++ wr) := by
  obtain ⟨-, hPr⟩ := vp_app.mp hP
  obtain ⟨-, hDr, hx⟩ := vd_app.mp hD
  have hnot : ∀ q ∈ wr, ¬ va_A wc H.size q.1 := by
    intro q hq h
    rcases h with ⟨k, e, h⟩ | h
    · exact hx _ (List.mem_of_getElem? h) q hq rfl
    · exact absurd (vp_iff.mp hPr q hq).lt (Nat.not_lt.mpr h)
  refine ⟨vp_app.mpr ⟨hP1, vp_iff.mpr (fun q hq => (vp_iff.mp hPr q hq).kept (hk q.1 (vp_iff.mp hPr q hq).lt (hnot q hq)))⟩, vd_app.mpr ⟨hD1.weaken (fun k q _ h => hF q.1 h), hDr, fun p hp q hq e => ?_⟩⟩
  exact hnot q hq (by rw [← e]; exact vd_mem hD1 hp)
theorem vj_free {A0 : Nat → Prop} {wc wr : va_W} {H0 H : Heap} {locs : List Loc} (hD : va_D A0 (wc ++ wr)) (hS : va_S A0 H0 H locs) (hA : ∀ q, H0.size ≤ q → A0 q) : ∀ q, va_A wc H.size q → A0 q := by
  intro q h
  rcases h with ⟨k, e, h⟩ | h
  · exact vd_mem hD (q := (q, e)) (List.mem_append_left _ (List.mem_of_getElem? h))
  · exact hA q (Nat.le_trans hS.1 h)
section VJ
variable {p : Program} {l : Launch} {e : Env} {R : Room} {s : State} {m : MethodId} {args : Array Value} {below : List Frame} {meth : Method} {c : Code} {H : Heap} {locs : List Loc} {cells slots : Nat} {Q : State → Prop}
variable {pc : Nat} {ls : Array Slot} {rest st0 : List Value} {D : va_G} {A0 : Nat → Prop} {H0 : Heap} {ar : Array Value} {mc ms : Nat}
theorem vj_calli {S : Type} {post : Int32 → S → Prop} {W' : S → va_W} {ws wc wr : va_W} (hr : va_Run p l e R s m args below meth c H locs cells slots mc ms (F0 m pc ls st0) rest (vg_Qi D H.size wc post W' ar) (va_A wc H.size)) (hP : va_P D vwCl ws H) (hD : va_D A0 ws) (hS : va_S A0 H0 H locs) (hA : ∀ q, H0.size ≤ q → A0 q) (hp : ws.Perm (wc ++ wr))
    (kk : ∀ (r : Int32) (u : S) (H1 : Heap) (locs1 : List Loc), post r u → va_P D vwCl (W' u ++ wr) H1 → va_D A0 (W' u ++ wr) → va_S A0 H0 H1 locs1 → W p l e R s m args below meth c H1 locs1 (cells + mc) (slots + ms) Q (F0 m (pc + 3) ls (.int r :: rest))) : W p l e R s m args below meth c H locs cells slots Q (F0 m pc ls st0) := by
  have hP' := vp_perm hP hp
  have hD' := vd_perm hp hD
  have hF := vj_free hD' hS hA
  refine va_calli hr hS (fun q _ h => hF q h) hF (fun r u t H1 locs1 ht hvm hw hB hz hk hS1 => ?_)
  obtain ⟨hP1, hD1⟩ := hB
  rw [ht] at hP1
  obtain ⟨a1, a2⟩ := vj_join hP' hD' hk hF hP1 hD1
  exact kk r u H1 locs1 hw a1 a2 hS1
theorem vj_calll {S : Type} {post : Int64 → S → Prop} {W' : S → va_W} {ws wc wr : va_W} (hr : va_Run p l e R s m args below meth c H locs cells slots mc ms (F0 m pc ls st0) rest (vg_Ql D H.size wc post W' ar) (va_A wc H.size)) (hP : va_P D vwCl ws H) (hD : va_D A0 ws) (hS : va_S A0 H0 H locs) (hA : ∀ q, H0.size ≤ q → A0 q) (hp : ws.Perm (wc ++ wr))
    (kk : ∀ (r : Int64) (u : S) (H1 : Heap) (locs1 : List Loc), post r u → va_P D vwCl (W' u ++ wr) H1 → va_D A0 (W' u ++ wr) → va_S A0 H0 H1 locs1 → W p l e R s m args below meth c H1 locs1 (cells + mc) (slots + ms) Q (F0 m (pc + 3) ls (.long r :: rest))) : W p l e R s m args below meth c H locs cells slots Q (F0 m pc ls st0) := by
  have hP' := vp_perm hP hp
  have hD' := vd_perm hp hD
  have hF := vj_free hD' hS hA
  refine va_calll hr hS (fun q _ h => hF q h) hF (fun r u t H1 locs1 ht hvm hw hB hz hk hS1 => ?_)
  obtain ⟨hP1, hD1⟩ := hB
  rw [ht] at hP1
  obtain ⟨a1, a2⟩ := vj_join hP' hD' hk hF hP1 hD1
  exact kk r u H1 locs1 hw a1 a2 hS1
theorem vj_callv {S : Type} {post : S → Prop} {W' : S → va_W} {ws wc wr : va_W} (hr : va_Run p l e R s m args below meth c H locs cells slots mc ms (F0 m pc ls st0) rest (vg_Qv D H.size wc post W' ar) (va_A wc H.size)) (hP : va_P D vwCl ws H) (hD : va_D A0 ws) (hS : va_S A0 H0 H locs) (hA : ∀ q, H0.size ≤ q → A0 q) (hp : ws.Perm (wc ++ wr))
    (kk : ∀ (u : S) (H1 : Heap) (locs1 : List Loc), post u → va_P D vwCl (W' u ++ wr) H1 → va_D A0 (W' u ++ wr) → va_S A0 H0 H1 locs1 → W p l e R s m args below meth c H1 locs1 (cells + mc) (slots + ms) Q (F0 m (pc + 3) ls (rest))) : W p l e R s m args below meth c H locs cells slots Q (F0 m pc ls st0) := by
  have hP' := vp_perm hP hp
  have hD' := vd_perm hp hD
  have hF := vj_free hD' hS hA
  refine va_callv hr hS (fun q _ h => hF q h) hF (fun u t H1 locs1 ht hvm hw hB hz hk hS1 => ?_)
  obtain ⟨hP1, hD1⟩ := hB
  rw [ht] at hP1
  obtain ⟨a1, a2⟩ := vj_join hP' hD' hk hF hP1 hD1
  exact kk u H1 locs1 hw a1 a2 hS1
theorem vj_callq {S : Type} {post : Option Nat → S → Prop} {W' : S → va_W} {ws wc wr : va_W} (hr : va_Run p l e R s m args below meth c H locs cells slots mc ms (F0 m pc ls st0) rest (vg_Qq D H.size wc post W' ar) (va_A wc H.size)) (hP : va_P D vwCl ws H) (hD : va_D A0 ws) (hS : va_S A0 H0 H locs) (hA : ∀ q, H0.size ≤ q → A0 q) (hp : ws.Perm (wc ++ wr))
    (kk : ∀ (r : Option Nat) (u : S) (H1 : Heap) (locs1 : List Loc), post r u → va_P D vwCl (W' u ++ wr) H1 → va_D A0 (W' u ++ wr) → va_S A0 H0 H1 locs1 → W p l e R s m args below meth c H1 locs1 (cells + mc) (slots + ms) Q (F0 m (pc + 3) ls (va_rf r :: rest))) : W p l e R s m args below meth c H locs cells slots Q (F0 m pc ls st0) := by
  have hP' := vp_perm hP hp
  have hD' := vd_perm hp hD
  have hF := vj_free hD' hS hA
  refine va_callq hr hS (fun q _ h => hF q h) hF (fun r u t H1 locs1 ht hvm hw hB hz hk hS1 => ?_)
  obtain ⟨hP1, hD1⟩ := hB
  rw [ht] at hP1
  obtain ⟨a1, a2⟩ := vj_join hP' hD' hk hF hP1 hD1
  exact kk r u H1 locs1 hw a1 a2 hS1
end VJ
