/-! a weaker end -/
theorem vm_Qi {S : Type} {l : Launch} {y : MethodName} {ws : List Cond} {rm : Room} {Pc : Array Value → State → Prop} {D : va_G} {sz : Nat} {W : va_W} {post : Int32 → S → Prop} {W1 : S → va_W} {post' : Int32 → va_W → Prop} {mc ms : Nat} {fr : Addr → Prop} (h : Met l y ws rm Pc (vg_Qi (S := S) D sz W post W1) mc ms fr) (hp : ∀ r u, post r u → post' r (W1 u)) : Met l y ws rm Pc (vg_Qi (S := va_W) D sz W post' (fun w => w)) mc ms fr :=
  MetFree.mono h (fun _ _ q => q) (fun _ _ _ _ _ q => q) (fun a s o t _ q => by
    obtain ⟨⟨⟨r, u, e, hp1, hB⟩, hF⟩, hr⟩ := q
    exact ⟨⟨⟨r, W1 u, e, hp r u hp1, hB⟩, hF⟩, hr⟩)
def PI (cy : Nat → ClassId) (e0 vo n : Nat) (μ : Nat → Nat → Int32) : Int32 → va_W → Prop := fun r w => r = μ 0 0 ∧ CI cy e0 vo n μ w
/-- who throws changes nothing -/
theorem CI_thr {cy : Nat → ClassId} {e0 vo n : Nat} {μ : Nat → Nat → Int32} {w : va_W} (h : CI cy e0 vo n μ w) (v : Nat → Int32) : CI cy e0 vo (n + 1) (va_up μ 0 v) w := by
  obtain ⟨sv, hm, nt, nw, np, nc, χ, sa, nm, nd, nca, NL, nka, nκ, nζ, nα, nau, nkd, nna, nth, nwe, nso, α, fk, fp, fa, ft, g, h, κ, ζ, L, P, lI, pI, dl, δ, e, hP, hR, h5, hS, h7, hn⟩ := h
  obtain ⟨r0, r1, r2, r3, r4, r5, r6, r7⟩ := RR_0 hR v
  exact ⟨sv, hm, nt, nw, np, nc, χ, sa, nm, nd, nca, NL, nka, nκ, nζ, nα, nau, nkd, nna, nth, nwe, nso, α, fk, fp, fa, ft, g, h, κ, ζ, L, P, lI, pI, dl, δ, e, hP, ⟨r0, r1, r2, r3, r4, r5, r6, q6_mono r7 (by omega)⟩, b5_rows h5 rfl, bS_rows hS rfl rfl, h7, by omega⟩
theorem pool_suc (nc : Nat) (α fk fp fa : Nat → Nat) (ft : Nat → Int32) (a k p q : Nat) (td : Int32) {y : Nat} (h : ∃ vs, ((y, .inr (1, vs)) : Nat × va_E) ∈ pool nc (Ac α fk fp fa ft)) : ∃ vs, ((y, .inr (1, vs)) : Nat × va_E) ∈ pool (nc + 1) (Ac (va_up α nc a) (va_up fk nc k) (va_up fp nc p) (va_up fa nc q) (va_up ft nc td)) := by
  obtain ⟨vs, hv⟩ := h
  obtain ⟨j, hj, e⟩ := List.mem_map.mp hv
  have hj2 := List.mem_range.mp hj
  refine ⟨vs, List.mem_map.mpr ⟨j, List.mem_range.mpr (by omega), ?_⟩⟩
  rw [← e, Ac, Ac, va_up_ne _ _ (by omega), va_up_ne _ _ (by omega), va_up_ne _ _ (by omega), va_up_ne _ _ (by omega), va_up_ne _ _ (by omega)]
theorem pool_new (nc : Nat) (α fk fp fa : Nat → Nat) (ft : Nat → Int32) (a k p q : Nat) (td : Int32) : ∃ vs, ((a, .inr (1, vs)) : Nat × va_E) ∈ pool (nc + 1) (Ac (va_up α nc a) (va_up fk nc k) (va_up fp nc p) (va_up fa nc q) (va_up ft nc td)) := by
  refine ⟨[.int (nI nc), .int (nI k), .int (nI p), .int (nI q), .int td], List.mem_map.mpr ⟨nc, List.mem_range.mpr (by omega), ?_⟩⟩
  rw [Ac, va_up_self, va_up_self, va_up_self, va_up_self, va_up_self]
theorem sPk_at (P : Nat → List Nat) (y : Nat) (sv : Int32) (i : Nat) : ∀ s, sPk P y sv s i = if i < s ∧ kHas sv i = true then P i ++ [y] else P i
  | 0 => by rw [sPk, if_neg (fun z => absurd z.1 (Nat.not_lt_zero _))]
  | s + 1 => by
    rw [sPk]
    by_cases c : i = s
    · subst c
      by_cases d : kHas sv i = true
      · rw [if_pos d, va_up_self, sPk_at P y sv i i, if_neg (fun z => absurd z.1 (Nat.lt_irrefl _)), if_pos ⟨by omega, d⟩]
      · rw [if_neg d, sPk_at P y sv i i, if_neg (fun z => d z.2), if_neg (fun z => d z.2)]
    · have e : sPk P y sv s i = if i < s + 1 ∧ kHas sv i = true then P i ++ [y] else P i := by
        rw [sPk_at P y sv i s]
        by_cases d : i < s
        · by_cases f : kHas sv i = true
          · rw [if_pos ⟨d, f⟩, if_pos ⟨by omega, f⟩]
          · rw [if_neg (fun z => f z.2), if_neg (fun z => f z.2)]
        · rw [if_neg (fun z => d z.1), if_neg (fun z => d (by have := z.1; omega))]
      split
      · rw [va_up_ne _ _ c]; exact e
      · exact e
/-- the places after an act -/
theorem CP_act {e0 np nc nd nca nn N : Nat} {NL : List Nat} {χ nα nau : Nat → Nat} {nkd nna nth nwe nso nwe2 nso2 : Nat → Int32} {α fk fp fa : Nat → Nat} {ft : Nat → Int32} {h h2 : Nat → Nat → Nat} {κ : Nat → Nat → Nat → Int32} {ζ : Nat → Nat → Nat → Int64} {L P lI pI : Nat → List Nat} {dl : Nat → Nat} {δ : Nat → Nat → Int32} {μ : Nat → Nat → Int32} (hP : CP e0 nc nd nca NL nα nau nkd nna nth nwe nso α fk fp fa ft h L P lI pI) (hR : RR np nc nn χ nau nkd nna nth nwe2 nso2 fk fp fa ft κ ζ lI pI dl δ μ N) {s u k p q : Nat} {td sv : Int32} (hok : vq_ok e0 h2 (va_up L s (L s ++ [u])) (sPk P u sv 4)) : CP e0 (nc + 1) nd nca NL nα nau nkd nna nth nwe nso (va_up α nc u) (va_up fk nc k) (va_up fp nc p) (va_up fa nc q) (va_up ft nc td) h2 (va_up L s (L s ++ [u])) (sPk P u sv 4) (va_up lI s (lI s ++ [nc])) (sPk pI nc sv 4) := by
  obtain ⟨c1, c2, c3, c4, c5, c6⟩ := hP
  obtain ⟨r0, r1, r2, r3, r4, r5, r6, r7⟩ := hR
  have hl : ∀ i, i < 4 → (lI i).map (va_up α nc u) = (lI i).map α := fun i hi => map_new (fun x hx => ((r6 i hi).2.2.2.1.2.2.2 x).mp hx |>.1)
  have hp : ∀ i, i < 4 → (pI i).map (va_up α nc u) = (pI i).map α := fun i hi => map_new (fun x hx => by
    obtain ⟨j, hj⟩ := List.mem_iff_getElem?.mp hx
    exact ((r7.1 i hi).2 j x hj).1)
  refine ⟨hok, fun i hi => ⟨fun y hy => ?_, fun y hy => ?_⟩, c3, c4, c5, fun i hi => ⟨?_, ?_⟩⟩
  · by_cases c : i = s
    · subst c
      rw [va_up_self] at hy
      rcases List.mem_append.mp hy with hy | hy
      · exact pool_suc nc α fk fp fa ft u k p q td ((c2 i hi).1 y hy)
      · rw [List.mem_singleton.mp hy]; exact pool_new nc α fk fp fa ft u k p q td
    · rw [va_up_ne _ _ c] at hy
      exact pool_suc nc α fk fp fa ft u k p q td ((c2 i hi).1 y hy)
  · rw [sPk_at] at hy
    split at hy
    · rcases List.mem_append.mp hy with hy | hy
      · exact pool_suc nc α fk fp fa ft u k p q td ((c2 i hi).2 y hy)
      · rw [List.mem_singleton.mp hy]; exact pool_new nc α fk fp fa ft u k p q td
    · exact pool_suc nc α fk fp fa ft u k p q td ((c2 i hi).2 y hy)
  · by_cases c : i = s
    · subst c
      rw [va_up_self, va_up_self, List.map_append, hl i hi, (c6 i hi).1]
      show _ = _ ++ [va_up α nc u nc]
      rw [va_up_self]
    · rw [va_up_ne _ _ c, va_up_ne _ _ c, hl i hi]; exact (c6 i hi).1
  · rw [sPk_at, sPk_at, (c6 i hi).2]
    split
    · rw [List.map_append, hp i hi]
      show _ = _ ++ [va_up α nc u nc]
      rw [va_up_self]
    · rw [hp i hi]
