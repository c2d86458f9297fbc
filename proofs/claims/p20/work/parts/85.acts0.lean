/-! p20: acts, deliveries and posts at the class's world (from the parts of whole) -/
theorem pool_suc (nc : Nat) (α fk fp fa : Nat → Nat) (ft : Nat → Int32) (a k p q : Nat) (td : Int32) {y : Nat} (h : ∃ vs, ((y, .inr (1, vs)) : Nat × va_E) ∈ pool nc (Ac α fk fp fa ft)) : ∃ vs, ((y, .inr (1, vs)) : Nat × va_E) ∈ pool (nc + 1) (Ac (va_up α nc a) (va_up fk nc k) (va_up fp nc p) (va_up fa nc q) (va_up ft nc td)) := by
  obtain ⟨vs, hv⟩ := h
  obtain ⟨j, hj, e⟩ := List.mem_map.mp hv
  have hj2 := List.mem_range.mp hj
  refine ⟨vs, List.mem_map.mpr ⟨j, List.mem_range.mpr (by omega), ?_⟩⟩
  rw [← e, Ac, Ac, va_up_ne _ _ (by omega), va_up_ne _ _ (by omega), va_up_ne _ _ (by omega), va_up_ne _ _ (by omega), va_up_ne _ _ (by omega)]
theorem pool_new (nc : Nat) (α fk fp fa : Nat → Nat) (ft : Nat → Int32) (a k p q : Nat) (td : Int32) : ∃ vs, ((a, .inr (1, vs)) : Nat × va_E) ∈ pool (nc + 1) (Ac (va_up α nc a) (va_up fk nc k) (va_up fp nc p) (va_up fa nc q) (va_up ft nc td)) := by
  refine ⟨[.int (nI nc), .int (nI k), .int (nI p), .int (nI q), .int td], List.mem_map.mpr ⟨nc, List.mem_range.mpr (by omega), ?_⟩⟩
  rw [Ac, va_up_self, va_up_self, va_up_self, va_up_self, va_up_self]
theorem sPk_at (P : Nat → List Nat) (y : Nat) (sv : Int32) (i : Nat) : ∀ s, sPk P y sv s i = if i < s ∧ kHas sv i = true then P i ++ [y] else P i
  | 0 => by rw [sPk, if_neg (fun z => absurd z.1 (Nat.not_lt_zero _))]
  | s + 1 => by
    rw [sPk]
    by_cases c : i = s
    · subst c
      by_cases d : kHas sv i = true
      · rw [if_pos d, va_up_self, sPk_at P y sv i i, if_neg (fun z => absurd z.1 (Nat.lt_irrefl _)), if_pos ⟨by omega, d⟩]
      · rw [if_neg d, sPk_at P y sv i i, if_neg (fun z => d z.2), if_neg (fun z => d z.2)]
    · have e : sPk P y sv s i = if i < s + 1 ∧ kHas sv i = true then P i ++ [y] else P i := by
        rw [sPk_at P y sv i s]
        by_cases d : i < s
        · by_cases f : kHas sv i = true
          · rw [if_pos ⟨d, f⟩, if_pos ⟨by omega, f⟩]
          · rw [if_neg (fun z => f z.2), if_neg (fun z => f z.2)]
        · rw [if_neg (fun z => d z.1), if_neg (fun z => d (by have := z.1; omega))]
      split
      · rw [va_up_ne _ _ c]; exact e
      · exact e
/-- the places after an act -/
theorem CP_act {e0 np nc nd nca nn N : Nat} {NL : List Nat} {χ nα nau : Nat → Nat} {nkd nna nth nwe nso nwe2 nso2 : Nat → Int32} {α fk fp fa : Nat → Nat} {ft : Nat → Int32} {h h2 : Nat → Nat → Nat} {κ : Nat → Nat → Nat → Int32} {ζ : Nat → Nat → Nat → Int64} {L P lI pI : Nat → List Nat} {dl : Nat → Nat} {δ : Nat → Nat → Int32} {μ : Nat → Nat → Int32} (hP : CP e0 nc nd nca NL nα nau nkd nna nth nwe nso α fk fp fa ft h L P lI pI) (hR : RR np nc nn χ nau nkd nna nth nwe2 nso2 fk fp fa ft κ ζ lI pI dl δ μ N) {s u k p q : Nat} {td sv : Int32} (hok : vq_ok e0 h2 (va_up L s (L s ++ [u])) (sPk P u sv 4)) : CP e0 (nc + 1) nd nca NL nα nau nkd nna nth nwe nso (va_up α nc u) (va_up fk nc k) (va_up fp nc p) (va_up fa nc q) (va_up ft nc td) h2 (va_up L s (L s ++ [u])) (sPk P u sv 4) (va_up lI s (lI s ++ [nc])) (sPk pI nc sv 4) := by
  obtain ⟨c1, c2, c3, c4, c5, c6⟩ := hP
  obtain ⟨r0, r1, r2, r3, r4, r5, r6, r7⟩ := hR
  have hl : ∀ i, i < 4 → (lI i).map (va_up α nc u) = (lI i).map α := fun i hi => map_new (fun x hx => ((r6 i hi).2.2.2.1.2.2.2 x).mp hx |>.1)
  have hp : ∀ i, i < 4 → (pI i).map (va_up α nc u) = (pI i).map α := fun i hi => map_new (fun x hx => by
    obtain ⟨j, hj⟩ := List.mem_iff_getElem?.mp hx
    exact ((r7.1 i hi).2 j x hj).1)
  refine ⟨hok, fun i hi => ⟨fun y hy => ?_, fun y hy => ?_⟩, c3, c4, c5, fun i hi => ⟨?_, ?_⟩⟩
  · by_cases c : i = s
    · subst c
      rw [va_up_self] at hy
      rcases List.mem_append.mp hy with hy | hy
      · exact pool_suc nc α fk fp fa ft u k p q td ((c2 i hi).1 y hy)
      · rw [List.mem_singleton.mp hy]; exact pool_new nc α fk fp fa ft u k p q td
    · rw [va_up_ne _ _ c] at hy
      exact pool_suc nc α fk fp fa ft u k p q td ((c2 i hi).1 y hy)
  · rw [sPk_at] at hy
    split at hy
    · rcases List.mem_append.mp hy with hy | hy
      · exact pool_suc nc α fk fp fa ft u k p q td ((c2 i hi).2 y hy)
      · rw [List.mem_singleton.mp hy]; exact pool_new nc α fk fp fa ft u k p q td
    · exact pool_suc nc α fk fp fa ft u k p q td ((c2 i hi).2 y hy)
  · by_cases c : i = s
    · subst c
      rw [va_up_self, va_up_self, List.map_append, hl i hi, (c6 i hi).1]
      show _ = _ ++ [va_up α nc u nc]
      rw [va_up_self]
    · rw [va_up_ne _ _ c, va_up_ne _ _ c, hl i hi]; exact (c6 i hi).1
  · rw [sPk_at, sPk_at, (c6 i hi).2]
    split
    · rw [List.map_append, hp i hi]
      show _ = _ ++ [va_up α nc u nc]
      rw [va_up_self]
    · rw [hp i hi]
theorem CI_act_n {cy : Nat → ClassId} {e0 vo sw hm nt nw np nc : Nat} {χ sa : Nat → Nat} {nm nd nca : Nat} {NL : List Nat} {nka : Nat → Nat} {nκ : Nat → Nat → Int32} {nζ : Nat → Nat → Int64} {nα nau : Nat → Nat} {nkd nna nth nwe nso : Nat → Int32} {α fk fp fa : Nat → Nat} {ft : Nat → Int32} {g h : Nat → Nat → Nat} {κ : Nat → Nat → Nat → Int32} {ζ : Nat → Nat → Nat → Int64} {L P lI pI : Nat → List Nat} {dl : Nat → Nat} {δ : Nat → Nat → Int32} {μ : Nat → Nat → Int32} {n : Nat} (hP : CP e0 nc nd nca NL nα nau nkd nna nth nwe nso α fk fp fa ft h L P lI pI) (hR : RR np nc NL.length χ nau nkd nna nth nwe nso fk fp fa ft κ ζ lI pI dl δ μ (2 * n)) (h5 : b5 μ) (hS : bS μ) (h7 : q7 pI dl δ) (hnc : nc ≤ n) {h2 : Nat → Nat → Nat} {k p q u : Nat} {td sv : Int32} (hn : n < 512) (hk : k < 11) (hp : p < np) (hq : k < 8 → q < np) (hq8 : 8 ≤ k → q < NL.length) (hf : ∀ f, f < 10 → kHas td f = true → f < np) (h8 : k = 8 → (∀ b, b < nc → fk b = 8 → ¬ fa b = q) ∧ ∀ s, s < 4 → μ 9 (50 * s + q) = 0) (hc : ¬ ((k = 8 ∨ k = 9) ∧ qC χ nkd nth q (χ p))) (hok : vq_ok e0 h2 (va_up L (χ p) (L (χ p) ++ [u])) (sPk P u (sv &&& (kBit (χ p) ^^^ (-1))) 4)) {w : va_W} (hw : w.Perm (CW cy vo sw hm nt nw np (nc + 1) χ sa nm nd nca NL nka nκ nζ nα nau nkd nna nth nwe nso (va_up α nc u) (va_up fk nc k) (va_up fp nc p) (va_up fa nc q) (va_up ft nc td) g h2 (va_up κ (χ p) (kLearn (κ (χ p)) k p q td)) (va_up ζ (χ p) (zLearn (ζ (χ p)) k p q)) (va_up L (χ p) (L (χ p) ++ [u])) (sPk P u (sv &&& (kBit (χ p) ^^^ (-1))) 4) dl (va_up δ (χ p) (upd (δ (χ p)) nc 1)))) : CI cy e0 vo (n + 1) (mAct μ k p q td sv) w := by
  obtain ⟨r0, r1, r2, r3, r4, r5, r6, r7⟩ := RR_act_n (sv := sv) hR (by omega) hk hp hq hq8 hf h8 (by omega) hc
  have n2 := hR.1.1.2
  have n7 := hR.1.2.2.2.2
  have hq50 : q < 50 := (Nat.lt_or_ge k 8).elim (fun c => by have := hq c; omega) (fun c => by have := hq8 c; omega)
  exact ⟨sw, hm, nt, nw, np, nc + 1, χ, sa, nm, nd, nca, NL, nka, nκ, nζ, nα, nau, nkd, nna, nth, nwe, nso, _, _, _, _, _, g, h2, _, _, _, _, _, _, dl, _, hw, CP_act hP hR hok, ⟨r0, r1, r2, r3, r4, r5, r6, q6_mono r7 (by omega)⟩, b5_act h5 _ _ _ _ _, bS_act hS hR.2.1 td sv hk (by omega) hq50 (fun c => by have := hq c; omega), q7_dlt (q7_snd _ h7 (fun i hi => (hR.2.2.2.2.2.2.2.2.1 i hi).2.1)), by omega⟩
theorem mAct_0 (μ : Nat → Nat → Int32) (k p q : Nat) (td sv : Int32) : mAct μ k p q td sv 0 = μ 0 := by
  rw [mAct, mDo_k _ _ _ (by decide) (by decide) (by decide) (by decide) (by decide) (by decide) (by decide) (by decide) (by decide) (by decide) (by decide), mSnd_k _ _ _ (by decide) (by decide) 4]
  rfl
theorem vq_el_new {L P : Nat → List Nat} {pl : va_W} {s q n k p a : Nat} {td sv : Int32} (h : vq_el L P pl) : vq_el (va_up L s (L s ++ [q])) (sPk P q sv 4) (Aw q n k p a td ++ pl) := by
  have old : ∀ y, (∃ vs, ((y, .inr (1, vs)) : Nat × va_E) ∈ pl) → ∃ vs, ((y, .inr (1, vs)) : Nat × va_E) ∈ Aw q n k p a td ++ pl := fun y hy => hy.imp (fun _ hv => List.mem_append_right _ hv)
  have new : ∃ vs, ((q, .inr (1, vs)) : Nat × va_E) ∈ Aw q n k p a td ++ pl := ⟨_, List.mem_append_left _ List.mem_cons_self⟩
  intro i hi
  refine ⟨fun y hy => ?_, fun y hy => ?_⟩
  · by_cases c : i = s
    · subst c
      rw [va_up_self] at hy
      rcases List.mem_append.mp hy with hy | hy
      · exact old y ((h i hi).1 y hy)
      · rw [List.mem_singleton.mp hy]; exact new
    · rw [va_up_ne _ _ c] at hy
      exact old y ((h i hi).1 y hy)
  · rw [sPk_at] at hy
    split at hy
    · rcases List.mem_append.mp hy with hy | hy
      · exact old y ((h i hi).2 y hy)
      · rw [List.mem_singleton.mp hy]; exact new
    · exact old y ((h i hi).2 y hy)
theorem vSO_P {l : Launch} {D : va_G} {cy : Nat → ClassId} {e0 mi vo sv hm nt nw np nc : Nat} {χ sa : Nat → Nat} {ac an ak ap ab : Nat} {td : Int32} {pl : va_W} {g : Nat → Nat → Nat} {κ : Nat → Nat → Nat → Int32} {ζ : Nat → Nat → Nat → Int64} {L P P1 P2 : Nat → List Nat} {dl : Nat → Nat} {δ : Nat → Nat → Int32} {si : Nat} {X X1 X2 : va_W} (h : vSO l D cy e0 mi vo sv hm nt nw np nc χ sa ac an ak ap ab td pl g κ ζ L P P1 dl δ si X X1) (e : P1 = P2) (e2 : X1 = X2) : vSO l D cy e0 mi vo sv hm nt nw np nc χ sa ac an ak ap ab td pl g κ ζ L P P2 dl δ si X X2 := by
  subst e
  subst e2
  exact h
theorem sPk_z (P : Nat → List Nat) (y : Nat) : ∀ n, n ≤ 32 → sPk P y 0 n = P
  | 0, _ => rfl
  | n + 1, h => by rw [sPk, if_neg (by rw [kHas_0 (by omega)]; decide), sPk_z P y n (by omega)]
theorem nth_t {np nc nn : Nat} {χ nau : Nat → Nat} {nkd nna nth nwe nso : Nat → Int32} {fk fp fa : Nat → Nat} {ft : Nat → Int32} {κ : Nat → Nat → Nat → Int32} {ζ : Nat → Nat → Nat → Int64} {lI pI : Nat → List Nat} {dl : Nat → Nat} {δ : Nat → Nat → Int32} {μ : Nat → Nat → Int32} {N : Nat} (h : RR np nc nn χ nau nkd nna nth nwe nso fk fp fa ft κ ζ lI pI dl δ μ N) {n : Nat} (hn : n < nn) : ∃ t, (nth n = -1 ∨ (nth n = nI t ∧ t < 10)) ∧ ∀ s, ¬ qC χ nkd nth n s → ¬ (nkd n = 0 ∧ ¬ nth n = -1 ∧ χ t = s) := by
  obtain ⟨h0, hW, hA, h2, h3, h4, hS, h6⟩ := h
  obtain ⟨p1, p2, p3, p4, p5⟩ := h2 n hn
  rcases p5 with ⟨p6, p7⟩ | ⟨r, hr, p6, p7⟩
  · exact ⟨0, Or.inl p6, fun s _ z => z.2.1 p6⟩
  · have hr10 : nau r < 10 := by have := (h2 r hr).2.1; have := h0.1.2; omega
    exact ⟨nau r, Or.inr ⟨p7, hr10⟩, fun s c z => c ⟨z.1, nau r, hr10, p7, z.2.2⟩⟩
theorem CI_act_9 {cy : Nat → ClassId} {e0 vo sw hm nt nw np nc : Nat} {χ sa : Nat → Nat} {nm nd nca : Nat} {NL : List Nat} {nka : Nat → Nat} {nκ : Nat → Nat → Int32} {nζ : Nat → Nat → Int64} {nα nau : Nat → Nat} {nkd nna nth nwe nso : Nat → Int32} {α fk fp fa : Nat → Nat} {ft : Nat → Int32} {g h : Nat → Nat → Nat} {κ : Nat → Nat → Nat → Int32} {ζ : Nat → Nat → Nat → Int64} {L P lI pI : Nat → List Nat} {dl : Nat → Nat} {δ : Nat → Nat → Int32} {μ : Nat → Nat → Int32} {n : Nat} (hP : CP e0 nc nd nca NL nα nau nkd nna nth nwe nso α fk fp fa ft h L P lI pI) (hR : RR np nc NL.length χ nau nkd nna nth nwe nso fk fp fa ft κ ζ lI pI dl δ μ (2 * n)) (h5 : b5 μ) (hS : bS μ) (h7 : q7 pI dl δ) (hnc : nc ≤ n) {h2 : Nat → Nat → Nat} {p q t u : Nat} {td sv : Int32} (hn : n < 512) (hp : p < np) (hq : q < NL.length) (hf : ∀ f, f < 10 → kHas td f = true → f < np) (hkd : nkd q = 0) (ht : t < 10) (he : nth q = nI t) (hx : χ t = χ p) (hz : nso q = 0) (hok : vq_ok e0 h2 (va_up L (χ p) (L (χ p) ++ [u])) (sPk P u (sv &&& (kBit (χ p) ^^^ (-1))) 4)) {w : va_W} (hw : w.Perm (CW cy vo sw hm nt nw np (nc + 1) χ sa nm nd nca NL nka nκ nζ nα nau nkd nna nth nwe nso (va_up α nc u) (va_up fk nc 9) (va_up fp nc p) (va_up fa nc q) (va_up ft nc td) g h2 (va_up κ (χ p) (kLearn (κ (χ p)) 9 p q td)) (va_up ζ (χ p) (zLearn (ζ (χ p)) 9 p q)) (va_up L (χ p) (L (χ p) ++ [u])) (sPk P u (sv &&& (kBit (χ p) ^^^ (-1))) 4) dl (va_up δ (χ p) (upd (δ (χ p)) nc 1)))) : CI cy e0 vo (n + 1) (mAct μ 9 p q td sv) w := by
  have h9 := RR_act_9 (sv := sv) hR (by omega) (by omega) hp (fun z => absurd z (by omega)) (fun _ => hq) hf (fun z => absurd z (by omega)) (by omega) hkd ht he hx
  rw [hz, sPk_z _ _ 4 (by omega)] at h9
  obtain ⟨r0, r1, r2, r3, r4, r5, r6, r7⟩ := h9
  have n2 := hR.1.1.2
  have n7 := hR.1.2.2.2.2
  exact ⟨sw, hm, nt, nw, np, nc + 1, χ, sa, nm, nd, nca, NL, nka, nκ, nζ, nα, nau, nkd, nna, nth, nwe, nso, _, _, _, _, _, g, h2, _, _, _, _, _, _, dl, _, hw, CP_act hP hR hok, ⟨r0, r1, r2, r3, r4, r5, r6, q6_mono r7 (by omega)⟩, b5_act h5 _ _ _ _ _, bS_act hS hR.2.1 td sv (by omega) (by omega) (by omega) (fun z => absurd z (by omega)), q7_dlt (q7_snd _ h7 (fun i hi => (hR.2.2.2.2.2.2.2.2.1 i hi).2.1)), by omega⟩
theorem pool_at {nc a : Nat} {α fk fp fa : Nat → Nat} {ft : Nat → Int32} (ha : a < nc) : ∃ vs, ((α a, .inr (1, vs)) : Nat × va_E) ∈ pool nc (Ac α fk fp fa ft) := ⟨_, List.mem_map.mpr ⟨a, List.mem_range.mpr ha, rfl⟩⟩
theorem vl_el_nw {NL : List Nat} {nn : Nat} {nα nau : Nat → Nat} {nkd nna nth nwe nso nwe2 nso2 : Nat → Int32} (h : vl_el NL (pool nn (Nc nα nau nkd nna nth nwe nso)) 3) : vl_el NL (pool nn (Nc nα nau nkd nna nth nwe2 nso2)) 3 := by
  intro y hy
  obtain ⟨vs, hv⟩ := h y hy
  obtain ⟨j, hj, e⟩ := List.mem_map.mp hv
  have e1 : nα j = y := congrArg Prod.fst e
  rw [← e1]
  exact ⟨_, List.mem_map.mpr ⟨j, hj, rfl⟩⟩
theorem CP_do {e0 nc nd nca : Nat} {NL : List Nat} {nα nau : Nat → Nat} {nkd nna nth nwe nso nwe2 nso2 : Nat → Int32} {α fk fp fa : Nat → Nat} {ft : Nat → Int32} {h h2 : Nat → Nat → Nat} {L P P2 lI pI pI2 : Nat → List Nat} (hP : CP e0 nc nd nca NL nα nau nkd nna nth nwe nso α fk fp fa ft h L P lI pI) {s a : Nat} (ha : a < nc) (hok : vq_ok e0 h2 (va_up L s (L s ++ [α a])) P2) (hsub : ∀ i, i < 4 → ∀ y, y ∈ P2 i → y ∈ P i ∨ y = α a) (hmap : ∀ i, i < 4 → P2 i = (pI2 i).map α) : CP e0 nc nd nca NL nα nau nkd nna nth nwe2 nso2 α fk fp fa ft h2 (va_up L s (L s ++ [α a])) P2 (va_up lI s (lI s ++ [a])) pI2 := by
  obtain ⟨c1, c2, c3, c4, c5, c6⟩ := hP
  refine ⟨hok, fun i hi => ⟨fun y hy => ?_, fun y hy => ?_⟩, c3, c4, vl_el_nw c5, fun i hi => ⟨?_, hmap i hi⟩⟩
  · by_cases c : i = s
    · subst c
      rw [va_up_self] at hy
      rcases List.mem_append.mp hy with hy | hy
      · exact (c2 i hi).1 y hy
      · rw [List.mem_singleton.mp hy]; exact pool_at ha
    · rw [va_up_ne _ _ c] at hy
      exact (c2 i hi).1 y hy
  · rcases hsub i hi y hy with hy | hy
    · exact (c2 i hi).2 y hy
    · rw [hy]; exact pool_at ha
  · by_cases c : i = s
    · subst c
      rw [va_up_self, va_up_self, List.map_append, (c6 i hi).1]
      rfl
    · rw [va_up_ne _ _ c, va_up_ne _ _ c]; exact (c6 i hi).1
theorem sPk_sub (P : Nat → List Nat) (q : Nat) (sv : Int32) (i y : Nat) (hy : y ∈ sPk P q sv 4 i) : y ∈ P i ∨ y = q := by
  rw [sPk_at] at hy
  split at hy
  · rcases List.mem_append.mp hy with hy | hy
    · exact Or.inl hy
    · exact Or.inr (List.mem_singleton.mp hy)
  · exact Or.inl hy
theorem sPk_mp {P pI : Nat → List Nat} {α : Nat → Nat} (h : ∀ i, i < 4 → P i = (pI i).map α) (a : Nat) (sv : Int32) (i : Nat) (hi : i < 4) : sPk P (α a) sv 4 i = (sPk pI a sv 4 i).map α := by
  rw [sPk_at, sPk_at, h i hi]
  by_cases z : i < 4 ∧ kHas sv i = true
  · rw [if_pos z, if_pos z, List.map_append]
    rfl
  · rw [if_neg z, if_neg z]
theorem vq_el_do {L P : Nat → List Nat} {nc s a : Nat} {α fk fp fa : Nat → Nat} {ft : Nat → Int32} (h : vq_el L P (pool nc (Ac α fk fp fa ft))) (ha : a < nc) : vq_el (va_up L s (L s ++ [α a])) P (pool nc (Ac α fk fp fa ft)) := by
  intro i hi
  refine ⟨fun y hy => ?_, (h i hi).2⟩
  by_cases c : i = s
  · subst c
    rw [va_up_self] at hy
    rcases List.mem_append.mp hy with hy | hy
    · exact (h i hi).1 y hy
    · rw [List.mem_singleton.mp hy]; exact pool_at ha
  · rw [va_up_ne _ _ c] at hy
    exact (h i hi).1 y hy
theorem mDo_0 (μ : Nat → Nat → Int32) (s a : Nat) : mDo μ s a 0 = μ 0 := mDo_k μ s a (by decide) (by decide) (by decide) (by decide) (by decide) (by decide) (by decide) (by decide) (by decide) (by decide) (by decide)
theorem RR_mn {np nc nn : Nat} {χ nau : Nat → Nat} {nkd nna nth nwe nso : Nat → Int32} {fk fp fa : Nat → Nat} {ft : Nat → Int32} {κ : Nat → Nat → Nat → Int32} {ζ : Nat → Nat → Nat → Int64} {lI pI : Nat → List Nat} {dl : Nat → Nat} {δ : Nat → Nat → Int32} {μ : Nat → Nat → Int32} {N : Nat} (h : RR np nc nn χ nau nkd nna nth nwe nso fk fp fa ft κ ζ lI pI dl δ μ N) {M : Nat} (hM : N ≤ M) : RR np nc nn χ nau nkd nna nth nwe nso fk fp fa ft κ ζ lI pI dl δ μ M := by
  obtain ⟨r0, r1, r2, r3, r4, r5, r6, r7⟩ := h
  exact ⟨r0, r1, r2, r3, r4, r5, r6, q6_mono r7 hM⟩
theorem CI_dlv {cy : Nat → ClassId} {e0 vo sw hm nt nw np nc : Nat} {χ sa : Nat → Nat} {nm nd nca : Nat} {NL : List Nat} {nka : Nat → Nat} {nκ : Nat → Nat → Int32} {nζ : Nat → Nat → Int64} {nα nau : Nat → Nat} {nkd nna nth nwe nso : Nat → Int32} {α fk fp fa : Nat → Nat} {ft : Nat → Int32} {g h : Nat → Nat → Nat} {κ : Nat → Nat → Nat → Int32} {ζ : Nat → Nat → Nat → Int64} {L P lI pI : Nat → List Nat} {dl : Nat → Nat} {δ : Nat → Nat → Int32} {μ : Nat → Nat → Int32} {n : Nat} (hP : CP e0 nc nd nca NL nα nau nkd nna nth nwe nso α fk fp fa ft h L P lI pI) (hR : RR np nc NL.length χ nau nkd nna nth nwe nso fk fp fa ft κ ζ lI pI dl δ μ (2 * n)) (h5 : b5 μ) (hS : bS μ) (hnc : nc ≤ n) {s a : Nat} {P2 pI2 : Nat → List Nat} {nwe2 nso2 : Nat → Int32} {h2 : Nat → Nat → Nat} (y2 : a < nc) (hs : s < 4) (hlt : dl s < (pI s).length) (hok : vq_ok e0 h2 (va_up L s (L s ++ [α a])) P2) (hsub : ∀ i, i < 4 → ∀ y, y ∈ P2 i → y ∈ P i ∨ y = α a) (hmap : ∀ i, i < 4 → P2 i = (pI2 i).map α) (hq : q7 pI2 (va_up dl s (dl s + 1)) (va_up δ s (upd (δ s) a 1))) (hr : RR np nc NL.length χ nau nkd nna nth nwe2 nso2 fk fp fa ft (va_up κ s (kLearn (κ s) (fk a) (fp a) (fa a) (ft a))) (va_up ζ s (zLearn (ζ s) (fk a) (fp a) (fa a))) (va_up lI s (lI s ++ [a])) pI2 (va_up dl s (dl s + 1)) (va_up δ s (upd (δ s) a 1)) (mDo (va_up (va_up μ 0 (fun _ => 0)) 24 (upd (μ 24) s (nI (dl s + 1)))) s a) (2 * (n + 1))) {w : va_W} (hw : w.Perm (CW cy vo sw hm nt nw np nc χ sa nm nd nca NL nka nκ nζ nα nau nkd nna nth nwe2 nso2 α fk fp fa ft g h2 (va_up κ s (kLearn (κ s) (fk a) (fp a) (fa a) (ft a))) (va_up ζ s (zLearn (ζ s) (fk a) (fp a) (fa a))) (va_up L s (L s ++ [α a])) P2 (va_up dl s (dl s + 1)) (va_up δ s (upd (δ s) a 1)))) : CI cy e0 vo (n + 1) (mDo (va_up (va_up μ 0 (fun _ => 0)) 24 (upd (μ 24) s (nI (dl s + 1)))) s a) w := by
  have hW : mWF (va_up (va_up μ 0 (fun _ => 0)) 24 (upd (μ 24) s (nI (dl s + 1)))) := (RR_dl (RR_0 hR (fun _ => 0)) hs hlt).2.1
  have hb5 : b5 (va_up (va_up μ 0 (fun _ => 0)) 24 (upd (μ 24) s (nI (dl s + 1)))) := b5_rows h5 rfl
  have hbS : bS (va_up (va_up μ 0 (fun _ => 0)) 24 (upd (μ 24) s (nI (dl s + 1)))) := bS_rows hS rfl rfl
  exact ⟨sw, hm, nt, nw, np, nc, χ, sa, nm, nd, nca, NL, nka, nκ, nζ, nα, nau, nkd, nna, nth, nwe2, nso2, α, fk, fp, fa, ft, g, h2, (va_up κ s (kLearn (κ s) (fk a) (fp a) (fa a) (ft a))), (va_up ζ s (zLearn (ζ s) (fk a) (fp a) (fa a))), (va_up L s (L s ++ [α a])), P2, va_up lI s (lI s ++ [a]), pI2, (va_up dl s (dl s + 1)), (va_up δ s (upd (δ s) a 1)), hw, CP_do hP y2 hok hsub hmap, hr, b5_do hb5 s a, bS_do hbS hW s a, hq, by omega⟩
theorem msk2 (x m : Int32) : (x &&& (m ^^^ (-1))) &&& (m ^^^ (-1)) = x &&& (m ^^^ (-1)) := kHas_ext (fun q hq => by
  rw [kHas_andn _ _ hq, kHas_andn _ _ hq]
  cases kHas x q <;> cases kHas m q <;> rfl)
theorem kHo_lo4 {χ : Nat → Nat} (hχ : ∀ j, j < 10 → χ j < 4) (x : Int32) : ∀ n, n ≤ 10 → lo4 (kHo χ x n)
  | 0, _ => lo4_0
  | n + 1, h => by
    rw [kHo]
    split
    · exact lo4_or (kHo_lo4 hχ x n (by omega)) (lo4_bit (hχ n (by omega)))
    · exact kHo_lo4 hχ x n (by omega)
theorem cTo0_lo4 {χ : Nat → Nat} (hχ : ∀ j, j < 10 → χ j < 4) (κi : Nat → Nat → Int32) {np : Nat} (hn : np ≤ 10) (p : Nat) (k b : Int32) : lo4 (cTo0 χ κi np p k b) := by
  rw [cTo0]
  split
  · exact kHo_lo4 hχ b np hn
  · exact lo4_or (kHo_lo4 hχ b np hn) (kHo_lo4 hχ _ np hn)
theorem bS_pos0 {np nc nn : Nat} {χ nau : Nat → Nat} {nkd nna nth nwe nso : Nat → Int32} {fk fp fa : Nat → Nat} {ft : Nat → Int32} {κ : Nat → Nat → Nat → Int32} {ζ : Nat → Nat → Nat → Int64} {lI pI : Nat → List Nat} {dl : Nat → Nat} {δ : Nat → Nat → Int32} {μ : Nat → Nat → Int32} {N : Nat} (hb : bS μ) (h : RR np nc nn χ nau nkd nna nth nwe nso fk fp fa ft κ ζ lI pI dl δ μ N) {p : Nat} (hp : p < np) {k a r : Int32} (h4 : lo4 (mTo μ (nI p) k a r &&& (kBit (χ p) ^^^ (-1)))) : bS (mPos0 μ (nI p) k a r) := by
  obtain ⟨h0, -⟩ := h
  have h0' := h0
  obtain ⟨⟨n1, n2⟩, n3, n4, ⟨n6, n7⟩⟩ := h0
  have hp10 : p < 10 := by omega
  have en : tn (μ 11 0) = nn := by rw [n6, tn_nI (by omega)]
  have r16 : mPos0 μ (nI p) k a r 16 = upd (μ 16) nn (mTo μ (nI p) k a r &&& (kBit (χ p) ^^^ (-1))) := by
    rw [← mHb_q0 h0' hp10, mPos0, en, tn_nI (by omega)]; rfl
  refine ⟨fun j => ?_, fun j => hb.2 j⟩
  rw [r16]
  by_cases c : j = nn
  · rw [c, upd_same]; exact h4
  · rw [upd_ne _ _ c]; exact hb.1 j
theorem vq_fake (e0 : Nat) {L P : Nat → List Nat} (hL : vq_len L 1234) (hP : vq_len P 1234) : vq_ok e0 (fun _ j => if j = 0 ∨ j = 2 then e0 else 1234) L P := by
  have key : ∀ X : List Nat, X.length ≤ 1234 → vl_ok e0 e0 1234 X := fun X hX => by
    by_cases c : X = []
    · exact Or.inl ⟨c, rfl⟩
    · exact Or.inr ⟨c, by decide, hX⟩
  exact fun i hi => ⟨key _ (hL i hi), key _ (hP i hi)⟩
theorem vq_len_up {L : Nat → List Nat} {n s u : Nat} (h : vq_len L n) : vq_len (va_up L s (L s ++ [u])) (n + 1) := by
  intro i hi
  by_cases c : i = s
  · subst c
    rw [va_up_self, List.length_append]
    exact Nat.succ_le_succ (h i hi)
  · rw [va_up_ne _ _ c]
    exact Nat.le_succ_of_le (h i hi)
theorem vq_len_mn {L : Nat → List Nat} {n m : Nat} (h : vq_len L n) (hm : n ≤ m) : vq_len L m := fun i hi => Nat.le_trans (h i hi) hm
theorem CP_snd {e0 nc nd nca : Nat} {NL : List Nat} {nα nau : Nat → Nat} {nkd nna nth nwe nso : Nat → Int32} {α fk fp fa : Nat → Nat} {ft : Nat → Int32} {h h2 : Nat → Nat → Nat} {L P lI pI : Nat → List Nat} (hP : CP e0 nc nd nca NL nα nau nkd nna nth nwe nso α fk fp fa ft h L P lI pI) {a y : Nat} (ha : a < nc) (hy : α a = y) {sv : Int32} (hok : vq_ok e0 h2 L (sPk P y sv 4)) : CP e0 nc nd nca NL nα nau nkd nna nth nwe nso α fk fp fa ft h2 L (sPk P y sv 4) lI (sPk pI a sv 4) := by
  obtain ⟨c1, c2, c3, c4, c5, c6⟩ := hP
  subst hy
  refine ⟨hok, fun i hi => ⟨(c2 i hi).1, fun y hy => ?_⟩, c3, c4, c5, fun i hi => ⟨(c6 i hi).1, sPk_mp (fun i hi => (c6 i hi).2) a sv i hi⟩⟩
  rcases sPk_sub P (α a) sv i y hy with hy | hy
  · exact (c2 i hi).2 y hy
  · rw [hy]; exact pool_at ha
theorem CP_note {e0 nc nd nca nd2 nca2 qn : Nat} {NL : List Nat} {nα nau nau2 : Nat → Nat} {nkd nna nth nwe nso nkd2 nna2 nth2 nwe2 nso2 : Nat → Int32} {α fk fp fa : Nat → Nat} {ft : Nat → Int32} {h : Nat → Nat → Nat} {L P lI pI : Nat → List Nat} (hP : CP e0 nc nd nca NL nα nau nkd nna nth nwe nso α fk fp fa ft h L P lI pI) (hl : vl_ok e0 nd2 nca2 (NL ++ [qn])) : CP e0 nc nd2 nca2 (NL ++ [qn]) (va_up nα NL.length qn) nau2 nkd2 nna2 nth2 nwe2 nso2 α fk fp fa ft h L P lI pI := by
  obtain ⟨c1, c2, c3, c4, c5, c6⟩ := hP
  have hle : (NL ++ [qn]).length = NL.length + 1 := by rw [List.length_append]; rfl
  have key : ∀ j, j < (NL ++ [qn]).length → (NL ++ [qn])[j]? = some (va_up nα NL.length qn j) := fun j hj => by
    by_cases c : j = NL.length
    · subst c
      rw [List.getElem?_concat_length, va_up_self]
    · rw [List.getElem?_append_left (by omega), va_up_ne _ _ c]
      exact c4 j (by omega)
  refine ⟨c1, c2, hl, key, fun y hy => ?_, c6⟩
  obtain ⟨j, hj⟩ := List.mem_iff_getElem?.mp hy
  have hj2 : j < (NL ++ [qn]).length := (List.getElem?_eq_some_iff.mp hj).1
  have e1 := Option.some.inj (hj.symm.trans (key j hj2))
  rw [e1]
  exact ⟨_, List.mem_map.mpr ⟨j, List.mem_range.mpr hj2, rfl⟩⟩
theorem up_up (f : Nat → Int32) (i : Nat) (v u : Int32) : va_up (va_up f i v) i u = va_up f i u := by
  funext j
  by_cases c : j = i
  · subst c
    rw [va_up_self, va_up_self]
  · rw [va_up_ne _ _ c, va_up_ne _ _ c, va_up_ne _ _ c]
theorem CI_pos_n {cy : Nat → ClassId} {e0 vo sw hm nt nw np nc : Nat} {χ sa : Nat → Nat} {nm nd nca : Nat} {NL : List Nat} {nka : Nat → Nat} {nκ : Nat → Nat → Int32} {nζ : Nat → Nat → Int64} {nα nau : Nat → Nat} {nkd nna nth nwe nso : Nat → Int32} {α fk fp fa : Nat → Nat} {ft : Nat → Int32} {g h : Nat → Nat → Nat} {κ : Nat → Nat → Nat → Int32} {ζ : Nat → Nat → Nat → Int64} {L P lI pI : Nat → List Nat} {dl : Nat → Nat} {δ : Nat → Nat → Int32} {μ : Nat → Nat → Int32} {n : Nat} (hP : CP e0 nc nd nca NL nα nau nkd nna nth nwe nso α fk fp fa ft h L P lI pI) (hR : RR np nc NL.length χ nau nkd nna nth nwe nso fk fp fa ft κ ζ lI pI dl δ μ (2 * n)) (h5 : b5 μ) (hS : bS μ) (h7 : q7 pI dl δ) (hnc : nc ≤ n) {p : Nat} {k b r th we0 : Int32} (hn : n < 512) (hp : p < np) (h50 : NL.length < 50) (hth : (th = -1 ∧ r = -1) ∨ ∃ ri, ri < NL.length ∧ r = nI ri ∧ th = nI (nau ri)) (hwe : mTo μ (nI p) k b r &&& (kBit (χ p) ^^^ (-1)) = we0) (h4 : lo4 we0) {h2 : Nat → Nat → Nat} {qa qn nd2 nca2 : Nat} (hl2 : vl_ok e0 nd2 nca2 (NL ++ [qn])) (hc : ¬ qC χ (va_up nkd NL.length k) (va_up nth NL.length th) NL.length (χ p)) (hok : vq_ok e0 h2 (va_up L (χ p) (L (χ p) ++ [qa])) (sPk P qa (we0 &&& (kBit (χ p) ^^^ (-1))) 4)) {w : va_W} (hw : w.Perm (CW cy vo sw hm nt nw np (nc + 1) χ sa (nm + 1) nd2 nca2 (NL ++ [qn]) nka nκ nζ (va_up nα NL.length qn) (va_up nau NL.length p) (va_up nkd NL.length k) (va_up nna NL.length b) (va_up nth NL.length th) (va_up nwe NL.length we0) (va_up nso NL.length 0) (va_up α nc qa) (va_up fk nc 8) (va_up fp nc p) (va_up fa nc NL.length) (va_up ft nc 0) g h2 (va_up κ (χ p) (kLearn (κ (χ p)) 8 p NL.length 0)) (va_up ζ (χ p) (zLearn (ζ (χ p)) 8 p NL.length)) (va_up L (χ p) (L (χ p) ++ [qa])) (sPk P qa (we0 &&& (kBit (χ p) ^^^ (-1))) 4) dl (va_up δ (χ p) (upd (δ (χ p)) nc 1)))) : CI cy e0 vo (n + 1) (mAct (mPos0 μ (nI p) k b r) 8 p NL.length 0 (mTo μ (nI p) k b r)) w := by
  have hR1 := RR_pos0 hR hp h50 k b r th hth
  rw [hwe] at hR1
  have n2 := hR.1.1.2
  have hp10 : p < 10 := by omega
  have hms : mTo μ (nI p) k b r &&& (kBit (χ p) ^^^ (-1)) = we0 &&& (kBit (χ p) ^^^ (-1)) := by rw [← hwe, msk2]
  rw [mAct_mask hR1.1 hp10 8 NL.length 0 _ we0 hms]
  have hb5 : b5 (mPos0 μ (nI p) k b r) := b5_rows h5 rfl
  have hbS := bS_pos0 hS hR hp (k := k) (a := b) (r := r) (by rw [hwe]; exact h4)
  have hf8 : (8 : Nat) = 8 → (∀ a, a < nc → fk a = 8 → ¬ fa a = NL.length) ∧ ∀ s, s < 4 → mPos0 μ (nI p) k b r 9 (50 * s + NL.length) = 0 := fun _ => ⟨fun a ha ha8 e => by have := (hR.2.2.1 a ha).2.2.2.2.1 (by omega); omega, fun s hs => hR.2.2.2.2.2.1.2.1 s NL.length hs (Nat.le_refl _) h50⟩
  have hle : (NL ++ [qn]).length = NL.length + 1 := by rw [List.length_append]; rfl
  have hdl := fun i (hi : i < 4) => (hR.2.2.2.2.2.2.2.2.1 i hi).2.1
  have h9 := RR_act_n (k := 8) (p := p) (q := NL.length) (td := 0) (sv := we0) hR1 (by omega) (by omega) hp (fun z => absurd z (by omega)) (fun _ => by omega) (fun f hf z => by rw [kHas_0 (by omega)] at z; cases z) hf8 (by omega) (fun z => hc z.2)
  exact ⟨sw, hm, nt, nw, np, nc + 1, χ, sa, nm + 1, nd2, nca2, NL ++ [qn], nka, nκ, nζ, va_up nα NL.length qn, (va_up nau NL.length p), (va_up nkd NL.length k), (va_up nna NL.length b), (va_up nth NL.length th), va_up nwe NL.length we0, va_up nso NL.length 0, va_up α nc qa, va_up fk nc 8, va_up fp nc p, va_up fa nc NL.length, va_up ft nc 0, g, h2, (va_up κ (χ p) (kLearn (κ (χ p)) 8 p NL.length 0)), (va_up ζ (χ p) (zLearn (ζ (χ p)) 8 p NL.length)), (va_up L (χ p) (L (χ p) ++ [qa])), (sPk P qa (we0 &&& (kBit (χ p) ^^^ (-1))) 4), va_up lI (χ p) (lI (χ p) ++ [nc]), (sPk pI nc (we0 &&& (kBit (χ p) ^^^ (-1))) 4), dl, (va_up δ (χ p) (upd (δ (χ p)) nc 1)), hw, CP_note (CP_act hP hR hok) hl2, by rw [hle]; exact RR_mn h9 (by omega), b5_act hb5 _ _ _ _ _, bS_act hbS hR1.2.1 0 _ (by omega) (by omega) (by omega) (fun z => absurd z (by omega)), q7_dlt (q7_snd _ h7 hdl), by omega⟩
theorem CI_pos_y {cy : Nat → ClassId} {e0 vo sw hm nt nw np nc : Nat} {χ sa : Nat → Nat} {nm nd nca : Nat} {NL : List Nat} {nka : Nat → Nat} {nκ : Nat → Nat → Int32} {nζ : Nat → Nat → Int64} {nα nau : Nat → Nat} {nkd nna nth nwe nso : Nat → Int32} {α fk fp fa : Nat → Nat} {ft : Nat → Int32} {g h : Nat → Nat → Nat} {κ : Nat → Nat → Nat → Int32} {ζ : Nat → Nat → Nat → Int64} {L P lI pI : Nat → List Nat} {dl : Nat → Nat} {δ : Nat → Nat → Int32} {μ : Nat → Nat → Int32} {n : Nat} (hP : CP e0 nc nd nca NL nα nau nkd nna nth nwe nso α fk fp fa ft h L P lI pI) (hR : RR np nc NL.length χ nau nkd nna nth nwe nso fk fp fa ft κ ζ lI pI dl δ μ (2 * n)) (h5 : b5 μ) (hS : bS μ) (h7 : q7 pI dl δ) (hnc : nc ≤ n) {p : Nat} {k b r th we0 : Int32} (hn : n < 512) (hp : p < np) (h50 : NL.length < 50) (hth : (th = -1 ∧ r = -1) ∨ ∃ ri, ri < NL.length ∧ r = nI ri ∧ th = nI (nau ri)) (hwe : mTo μ (nI p) k b r &&& (kBit (χ p) ^^^ (-1)) = we0) (h4 : lo4 we0) {h2 : Nat → Nat → Nat} {qa qn nd2 nca2 : Nat} (hl2 : vl_ok e0 nd2 nca2 (NL ++ [qn])) {t : Nat} (hk : k = 0) (ht : t < 10) (he : th = nI t) (hx : χ t = χ p) (hlL : vq_len L 1023) (hlP : vq_len P 1022) (hok : vq_ok e0 h2 (va_up L (χ p) (L (χ p) ++ [qa])) (sPk (sPk P qa (we0 &&& (kBit (χ p) ^^^ (-1))) 4) qa (rTo2 χ (κ (χ p)) t (χ p) p np we0) 4)) {w : va_W} (hw : w.Perm (CW cy vo sw hm nt nw np (nc + 1) χ sa (nm + 1) nd2 nca2 (NL ++ [qn]) nka nκ nζ (va_up nα NL.length qn) (va_up nau NL.length p) (va_up nkd NL.length k) (va_up nna NL.length b) (va_up nth NL.length th) (va_up nwe NL.length (rWe χ (χ p) p we0 (rTo2 χ (κ (χ p)) t (χ p) p np we0))) (va_up nso NL.length (rSo χ (χ p) p 0 (rTo2 χ (κ (χ p)) t (χ p) p np we0))) (va_up α nc qa) (va_up fk nc 8) (va_up fp nc p) (va_up fa nc NL.length) (va_up ft nc 0) g h2 (va_up κ (χ p) (kLearn (κ (χ p)) 8 p NL.length 0)) (va_up ζ (χ p) (zLearn (ζ (χ p)) 8 p NL.length)) (va_up L (χ p) (L (χ p) ++ [qa])) (sPk (sPk P qa (we0 &&& (kBit (χ p) ^^^ (-1))) 4) qa (rTo2 χ (κ (χ p)) t (χ p) p np we0) 4) dl (va_up δ (χ p) (upd (δ (χ p)) nc 1)))) : CI cy e0 vo (n + 1) (mAct (mPos0 μ (nI p) k b r) 8 p NL.length 0 (mTo μ (nI p) k b r)) w := by
  have hR1 := RR_pos0 hR hp h50 k b r th hth
  rw [hwe] at hR1
  have n2 := hR.1.1.2
  have hp10 : p < 10 := by omega
  have hms : mTo μ (nI p) k b r &&& (kBit (χ p) ^^^ (-1)) = we0 &&& (kBit (χ p) ^^^ (-1)) := by rw [← hwe, msk2]
  rw [mAct_mask hR1.1 hp10 8 NL.length 0 _ we0 hms]
  have hb5 : b5 (mPos0 μ (nI p) k b r) := b5_rows h5 rfl
  have hbS := bS_pos0 hS hR hp (k := k) (a := b) (r := r) (by rw [hwe]; exact h4)
  have hf8 : (8 : Nat) = 8 → (∀ a, a < nc → fk a = 8 → ¬ fa a = NL.length) ∧ ∀ s, s < 4 → mPos0 μ (nI p) k b r 9 (50 * s + NL.length) = 0 := fun _ => ⟨fun a ha ha8 e => by have := (hR.2.2.1 a ha).2.2.2.2.1 (by omega); omega, fun s hs => hR.2.2.2.2.2.1.2.1 s NL.length hs (Nat.le_refl _) h50⟩
  have hle : (NL ++ [qn]).length = NL.length + 1 := by rw [List.length_append]; rfl
  have hdl := fun i (hi : i < 4) => (hR.2.2.2.2.2.2.2.2.1 i hi).2.1
  have h9 := RR_act_8 (p := p) (q := NL.length) (td := 0) (sv := we0) hR1 (by omega) (by omega) hp (fun z => absurd z (by omega)) (fun _ => by omega) (fun f hf z => by rw [kHas_0 (by omega)] at z; cases z) hf8 (by omega) (by rw [va_up_self]; exact hk) ht (by rw [va_up_self]; exact he) hx
  rw [up_up, up_up, va_up_self, va_up_self, va_up_self] at h9
  have hc1 := CP_act hP hR (h2 := fun _ j => if j = 0 ∨ j = 2 then e0 else 1234) (s := χ p) (u := qa) (k := 8) (p := p) (q := NL.length) (td := 0) (sv := we0 &&& (kBit (χ p) ^^^ (-1))) (vq_fake e0 (vq_len_mn (vq_len_up hlL) (by omega)) (vq_len_mn (sPk_len hlP 4) (by omega)))
  exact ⟨sw, hm, nt, nw, np, nc + 1, χ, sa, nm + 1, nd2, nca2, NL ++ [qn], nka, nκ, nζ, va_up nα NL.length qn, (va_up nau NL.length p), (va_up nkd NL.length k), (va_up nna NL.length b), (va_up nth NL.length th), va_up nwe NL.length (rWe χ (χ p) p we0 (rTo2 χ (κ (χ p)) t (χ p) p np we0)), va_up nso NL.length (rSo χ (χ p) p 0 (rTo2 χ (κ (χ p)) t (χ p) p np we0)), va_up α nc qa, va_up fk nc 8, va_up fp nc p, va_up fa nc NL.length, va_up ft nc 0, g, h2, (va_up κ (χ p) (kLearn (κ (χ p)) 8 p NL.length 0)), (va_up ζ (χ p) (zLearn (ζ (χ p)) 8 p NL.length)), (va_up L (χ p) (L (χ p) ++ [qa])), (sPk (sPk P qa (we0 &&& (kBit (χ p) ^^^ (-1))) 4) qa (rTo2 χ (κ (χ p)) t (χ p) p np we0) 4), va_up lI (χ p) (lI (χ p) ++ [nc]), (sPk (sPk pI nc (we0 &&& (kBit (χ p) ^^^ (-1))) 4) nc (rTo2 χ (κ (χ p)) t (χ p) p np we0) 4), dl, (va_up δ (χ p) (upd (δ (χ p)) nc 1)), hw, CP_note (CP_snd hc1 (Nat.lt_succ_self nc) (va_up_self α nc qa) hok) hl2, by rw [hle]; exact RR_mn h9 (by omega), b5_act hb5 _ _ _ _ _, bS_act hbS hR1.2.1 0 _ (by omega) (by omega) (by omega) (fun z => absurd z (by omega)), q7_dlt (q7_snd _ (q7_snd _ h7 hdl) (fun i hi => Nat.le_trans (hdl i hi) (sPk_ln pI nc _ i 4).1)), by omega⟩
