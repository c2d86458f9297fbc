/-! a post at the law's level -/
theorem msk2 (x m : Int32) : (x &&& (m ^^^ (-1))) &&& (m ^^^ (-1)) = x &&& (m ^^^ (-1)) := kHas_ext (fun q hq => by
  rw [kHas_andn _ _ hq, kHas_andn _ _ hq]
  cases kHas x q <;> cases kHas m q <;> rfl)
theorem kHo_lo4 {χ : Nat → Nat} (hχ : ∀ j, j < 10 → χ j < 4) (x : Int32) : ∀ n, n ≤ 10 → lo4 (kHo χ x n)
  | 0, _ => lo4_0
  | n + 1, h => by
    rw [kHo]
    split
    · exact lo4_or (kHo_lo4 hχ x n (by omega)) (lo4_bit (hχ n (by omega)))
    · exact kHo_lo4 hχ x n (by omega)
theorem cTo0_lo4 {χ : Nat → Nat} (hχ : ∀ j, j < 10 → χ j < 4) (κi : Nat → Nat → Int32) {np : Nat} (hn : np ≤ 10) (p : Nat) (k b : Int32) : lo4 (cTo0 χ κi np p k b) := by
  rw [cTo0]
  split
  · exact kHo_lo4 hχ b np hn
  · exact lo4_or (kHo_lo4 hχ b np hn) (kHo_lo4 hχ _ np hn)
theorem bS_pos0 {np nc nn : Nat} {χ nau : Nat → Nat} {nkd nna nth nwe nso : Nat → Int32} {fk fp fa : Nat → Nat} {ft : Nat → Int32} {κ : Nat → Nat → Nat → Int32} {ζ : Nat → Nat → Nat → Int64} {lI pI : Nat → List Nat} {dl : Nat → Nat} {δ : Nat → Nat → Int32} {μ : Nat → Nat → Int32} {N : Nat} (hb : bS μ) (h : RR np nc nn χ nau nkd nna nth nwe nso fk fp fa ft κ ζ lI pI dl δ μ N) {p : Nat} (hp : p < np) {k a r : Int32} (h4 : lo4 (mTo μ (nI p) k a r &&& (kBit (χ p) ^^^ (-1)))) : bS (mPos0 μ (nI p) k a r) := by
  obtain ⟨h0, -⟩ := h
  have h0' := h0
  obtain ⟨⟨n1, n2⟩, n3, n4, ⟨n6, n7⟩⟩ := h0
  have hp10 : p < 10 := by omega
  have en : tn (μ 11 0) = nn := by rw [n6, tn_nI (by omega)]
  have r16 : mPos0 μ (nI p) k a r 16 = upd (μ 16) nn (mTo μ (nI p) k a r &&& (kBit (χ p) ^^^ (-1))) := by
    rw [← mHb_q0 h0' hp10, mPos0, en, tn_nI (by omega)]; rfl
  refine ⟨fun j => ?_, fun j => hb.2 j⟩
  rw [r16]
  by_cases c : j = nn
  · rw [c, upd_same]; exact h4
  · rw [upd_ne _ _ c]; exact hb.1 j
theorem vq_fake (e0 : Nat) {L P : Nat → List Nat} (hL : vq_len L 1234) (hP : vq_len P 1234) : vq_ok e0 (fun _ j => if j = 0 ∨ j = 2 then e0 else 1234) L P := by
  have key : ∀ X : List Nat, X.length ≤ 1234 → vl_ok e0 e0 1234 X := fun X hX => by
    by_cases c : X = []
    · exact Or.inl ⟨c, rfl⟩
    · exact Or.inr ⟨c, by decide, hX⟩
  exact fun i hi => ⟨key _ (hL i hi), key _ (hP i hi)⟩
theorem vq_len_up {L : Nat → List Nat} {n s u : Nat} (h : vq_len L n) : vq_len (va_up L s (L s ++ [u])) (n + 1) := by
  intro i hi
  by_cases c : i = s
  · subst c
    rw [va_up_self, List.length_append]
    exact Nat.succ_le_succ (h i hi)
  · rw [va_up_ne _ _ c]
    exact Nat.le_succ_of_le (h i hi)
theorem vq_len_mn {L : Nat → List Nat} {n m : Nat} (h : vq_len L n) (hm : n ≤ m) : vq_len L m := fun i hi => Nat.le_trans (h i hi) hm
theorem CP_snd {e0 nc nd nca : Nat} {NL : List Nat} {nα nau : Nat → Nat} {nkd nna nth nwe nso : Nat → Int32} {α fk fp fa : Nat → Nat} {ft : Nat → Int32} {h h2 : Nat → Nat → Nat} {L P lI pI : Nat → List Nat} (hP : CP e0 nc nd nca NL nα nau nkd nna nth nwe nso α fk fp fa ft h L P lI pI) {a y : Nat} (ha : a < nc) (hy : α a = y) {sv : Int32} (hok : vq_ok e0 h2 L (sPk P y sv 4)) : CP e0 nc nd nca NL nα nau nkd nna nth nwe nso α fk fp fa ft h2 L (sPk P y sv 4) lI (sPk pI a sv 4) := by
  obtain ⟨c1, c2, c3, c4, c5, c6⟩ := hP
  subst hy
  refine ⟨hok, fun i hi => ⟨(c2 i hi).1, fun y hy => ?_⟩, c3, c4, c5, fun i hi => ⟨(c6 i hi).1, sPk_mp (fun i hi => (c6 i hi).2) a sv i hi⟩⟩
  rcases sPk_sub P (α a) sv i y hy with hy | hy
  · exact (c2 i hi).2 y hy
  · rw [hy]; exact pool_at ha
theorem CP_note {e0 nc nd nca nd2 nca2 qn : Nat} {NL : List Nat} {nα nau nau2 : Nat → Nat} {nkd nna nth nwe nso nkd2 nna2 nth2 nwe2 nso2 : Nat → Int32} {α fk fp fa : Nat → Nat} {ft : Nat → Int32} {h : Nat → Nat → Nat} {L P lI pI : Nat → List Nat} (hP : CP e0 nc nd nca NL nα nau nkd nna nth nwe nso α fk fp fa ft h L P lI pI) (hl : vl_ok e0 nd2 nca2 (NL ++ [qn])) : CP e0 nc nd2 nca2 (NL ++ [qn]) (va_up nα NL.length qn) nau2 nkd2 nna2 nth2 nwe2 nso2 α fk fp fa ft h L P lI pI := by
  obtain ⟨c1, c2, c3, c4, c5, c6⟩ := hP
  have hle : (NL ++ [qn]).length = NL.length + 1 := by rw [List.length_append]; rfl
  have key : ∀ j, j < (NL ++ [qn]).length → (NL ++ [qn])[j]? = some (va_up nα NL.length qn j) := fun j hj => by
    by_cases c : j = NL.length
    · subst c
      rw [List.getElem?_concat_length, va_up_self]
    · rw [List.getElem?_append_left (by omega), va_up_ne _ _ c]
      exact c4 j (by omega)
  refine ⟨c1, c2, hl, key, fun y hy => ?_, c6⟩
  obtain ⟨j, hj⟩ := List.mem_iff_getElem?.mp hy
  have hj2 : j < (NL ++ [qn]).length := (List.getElem?_eq_some_iff.mp hj).1
  have e1 := Option.some.inj (hj.symm.trans (key j hj2))
  rw [e1]
  exact ⟨_, List.mem_map.mpr ⟨j, List.mem_range.mpr hj2, rfl⟩⟩
theorem up_up (f : Nat → Int32) (i : Nat) (v u : Int32) : va_up (va_up f i v) i u = va_up f i u := by
  funext j
  by_cases c : j = i
  · subst c
    rw [va_up_self, va_up_self]
  · rw [va_up_ne _ _ c, va_up_ne _ _ c, va_up_ne _ _ c]
theorem CI_pos_n {cy : Nat → ClassId} {e0 vo sw hm nt nw np nc : Nat} {χ sa : Nat → Nat} {nm nd nca : Nat} {NL : List Nat} {nka : Nat → Nat} {nκ : Nat → Nat → Int32} {nζ : Nat → Nat → Int64} {nα nau : Nat → Nat} {nkd nna nth nwe nso : Nat → Int32} {α fk fp fa : Nat → Nat} {ft : Nat → Int32} {g h : Nat → Nat → Nat} {κ : Nat → Nat → Nat → Int32} {ζ : Nat → Nat → Nat → Int64} {L P lI pI : Nat → List Nat} {dl : Nat → Nat} {δ : Nat → Nat → Int32} {μ : Nat → Nat → Int32} {n : Nat} (hP : CP e0 nc nd nca NL nα nau nkd nna nth nwe nso α fk fp fa ft h L P lI pI) (hR : RR np nc NL.length χ nau nkd nna nth nwe nso fk fp fa ft κ ζ lI pI dl δ μ (2 * n)) (h5 : b5 μ) (hS : bS μ) (h7 : q7 pI dl δ) (hnc : nc ≤ n) {p : Nat} {k b r th we0 : Int32} (hn : n < 512) (hp : p < np) (h50 : NL.length < 50) (hth : (th = -1 ∧ r = -1) ∨ ∃ ri, ri < NL.length ∧ r = nI ri ∧ th = nI (nau ri)) (hwe : mTo μ (nI p) k b r &&& (kBit (χ p) ^^^ (-1)) = we0) (h4 : lo4 we0) {h2 : Nat → Nat → Nat} {qa qn nd2 nca2 : Nat} (hl2 : vl_ok e0 nd2 nca2 (NL ++ [qn])) (hc : ¬ qC χ (va_up nkd NL.length k) (va_up nth NL.length th) NL.length (χ p)) (hok : vq_ok e0 h2 (va_up L (χ p) (L (χ p) ++ [qa])) (sPk P qa (we0 &&& (kBit (χ p) ^^^ (-1))) 4)) {w : va_W} (hw : w.Perm (CW cy vo sw hm nt nw np (nc + 1) χ sa (nm + 1) nd2 nca2 (NL ++ [qn]) nka nκ nζ (va_up nα NL.length qn) (va_up nau NL.length p) (va_up nkd NL.length k) (va_up nna NL.length b) (va_up nth NL.length th) (va_up nwe NL.length we0) (va_up nso NL.length 0) (va_up α nc qa) (va_up fk nc 8) (va_up fp nc p) (va_up fa nc NL.length) (va_up ft nc 0) g h2 (va_up κ (χ p) (kLearn (κ (χ p)) 8 p NL.length 0)) (va_up ζ (χ p) (zLearn (ζ (χ p)) 8 p NL.length)) (va_up L (χ p) (L (χ p) ++ [qa])) (sPk P qa (we0 &&& (kBit (χ p) ^^^ (-1))) 4) dl (va_up δ (χ p) (upd (δ (χ p)) nc 1)))) : CI cy e0 vo (n + 1) (mAct (mPos0 μ (nI p) k b r) 8 p NL.length 0 (mTo μ (nI p) k b r)) w := by
  have hR1 := RR_pos0 hR hp h50 k b r th hth
  rw [hwe] at hR1
  have n2 := hR.1.1.2
  have hp10 : p < 10 := by omega
  have hms : mTo μ (nI p) k b r &&& (kBit (χ p) ^^^ (-1)) = we0 &&& (kBit (χ p) ^^^ (-1)) := by rw [← hwe, msk2]
  rw [mAct_mask hR1.1 hp10 8 NL.length 0 _ we0 hms]
  have hb5 : b5 (mPos0 μ (nI p) k b r) := b5_rows h5 rfl
  have hbS := bS_pos0 hS hR hp (k := k) (a := b) (r := r) (by rw [hwe]; exact h4)
  have hf8 : (8 : Nat) = 8 → (∀ a, a < nc → fk a = 8 → ¬ fa a = NL.length) ∧ ∀ s, s < 4 → mPos0 μ (nI p) k b r 9 (50 * s + NL.length) = 0 := fun _ => ⟨fun a ha ha8 e => by have := (hR.2.2.1 a ha).2.2.2.2.1 (by omega); omega, fun s hs => hR.2.2.2.2.2.1.2.1 s NL.length hs (Nat.le_refl _) h50⟩
  have hle : (NL ++ [qn]).length = NL.length + 1 := by rw [List.length_append]; rfl
  have hdl := fun i (hi : i < 4) => (hR.2.2.2.2.2.2.2.2.1 i hi).2.1
  have h9 := RR_act_n (k := 8) (p := p) (q := NL.length) (td := 0) (sv := we0) hR1 (by omega) (by omega) hp (fun z => absurd z (by omega)) (fun _ => by omega) (fun f hf z => by rw [kHas_0 (by omega)] at z; cases z) hf8 (by omega) (fun z => hc z.2)
  exact ⟨sw, hm, nt, nw, np, nc + 1, χ, sa, nm + 1, nd2, nca2, NL ++ [qn], nka, nκ, nζ, va_up nα NL.length qn, (va_up nau NL.length p), (va_up nkd NL.length k), (va_up nna NL.length b), (va_up nth NL.length th), va_up nwe NL.length we0, va_up nso NL.length 0, va_up α nc qa, va_up fk nc 8, va_up fp nc p, va_up fa nc NL.length, va_up ft nc 0, g, h2, (va_up κ (χ p) (kLearn (κ (χ p)) 8 p NL.length 0)), (va_up ζ (χ p) (zLearn (ζ (χ p)) 8 p NL.length)), (va_up L (χ p) (L (χ p) ++ [qa])), (sPk P qa (we0 &&& (kBit (χ p) ^^^ (-1))) 4), va_up lI (χ p) (lI (χ p) ++ [nc]), (sPk pI nc (we0 &&& (kBit (χ p) ^^^ (-1))) 4), dl, (va_up δ (χ p) (upd (δ (χ p)) nc 1)), hw, CP_note (CP_act hP hR hok) hl2, by rw [hle]; exact RR_mn h9 (by omega), b5_act hb5 _ _ _ _ _, bS_act hbS hR1.2.1 0 _ (by omega) (by omega) (by omega) (fun z => absurd z (by omega)), q7_dlt (q7_snd _ h7 hdl), by omega⟩
theorem CI_pos_y {cy : Nat → ClassId} {e0 vo sw hm nt nw np nc : Nat} {χ sa : Nat → Nat} {nm nd nca : Nat} {NL : List Nat} {nka : Nat → Nat} {nκ : Nat → Nat → Int32} {nζ : Nat → Nat → Int64} {nα nau : Nat → Nat} {nkd nna nth nwe nso : Nat → Int32} {α fk fp fa : Nat → Nat} {ft : Nat → Int32} {g h : Nat → Nat → Nat} {κ : Nat → Nat → Nat → Int32} {ζ : Nat → Nat → Nat → Int64} {L P lI pI : Nat → List Nat} {dl : Nat → Nat} {δ : Nat → Nat → Int32} {μ : Nat → Nat → Int32} {n : Nat} (hP : CP e0 nc nd nca NL nα nau nkd nna nth nwe nso α fk fp fa ft h L P lI pI) (hR : RR np nc NL.length χ nau nkd nna nth nwe nso fk fp fa ft κ ζ lI pI dl δ μ (2 * n)) (h5 : b5 μ) (hS : bS μ) (h7 : q7 pI dl δ) (hnc : nc ≤ n) {p : Nat} {k b r th we0 : Int32} (hn : n < 512) (hp : p < np) (h50 : NL.length < 50) (hth : (th = -1 ∧ r = -1) ∨ ∃ ri, ri < NL.length ∧ r = nI ri ∧ th = nI (nau ri)) (hwe : mTo μ (nI p) k b r &&& (kBit (χ p) ^^^ (-1)) = we0) (h4 : lo4 we0) {h2 : Nat → Nat → Nat} {qa qn nd2 nca2 : Nat} (hl2 : vl_ok e0 nd2 nca2 (NL ++ [qn])) {t : Nat} (hk : k = 0) (ht : t < 10) (he : th = nI t) (hx : χ t = χ p) (hlL : vq_len L 1023) (hlP : vq_len P 1022) (hok : vq_ok e0 h2 (va_up L (χ p) (L (χ p) ++ [qa])) (sPk (sPk P qa (we0 &&& (kBit (χ p) ^^^ (-1))) 4) qa (rTo2 χ (κ (χ p)) t (χ p) p np we0) 4)) {w : va_W} (hw : w.Perm (CW cy vo sw hm nt nw np (nc + 1) χ sa (nm + 1) nd2 nca2 (NL ++ [qn]) nka nκ nζ (va_up nα NL.length qn) (va_up nau NL.length p) (va_up nkd NL.length k) (va_up nna NL.length b) (va_up nth NL.length th) (va_up nwe NL.length (rWe χ (χ p) p we0 (rTo2 χ (κ (χ p)) t (χ p) p np we0))) (va_up nso NL.length (rSo χ (χ p) p 0 (rTo2 χ (κ (χ p)) t (χ p) p np we0))) (va_up α nc qa) (va_up fk nc 8) (va_up fp nc p) (va_up fa nc NL.length) (va_up ft nc 0) g h2 (va_up κ (χ p) (kLearn (κ (χ p)) 8 p NL.length 0)) (va_up ζ (χ p) (zLearn (ζ (χ p)) 8 p NL.length)) (va_up L (χ p) (L (χ p) ++ [qa])) (sPk (sPk P qa (we0 &&& (kBit (χ p) ^^^ (-1))) 4) qa (rTo2 χ (κ (χ p)) t (χ p) p np we0) 4) dl (va_up δ (χ p) (upd (δ (χ p)) nc 1)))) : CI cy e0 vo (n + 1) (mAct (mPos0 μ (nI p) k b r) 8 p NL.length 0 (mTo μ (nI p) k b r)) w := by
  have hR1 := RR_pos0 hR hp h50 k b r th hth
  rw [hwe] at hR1
  have n2 := hR.1.1.2
  have hp10 : p < 10 := by omega
  have hms : mTo μ (nI p) k b r &&& (kBit (χ p) ^^^ (-1)) = we0 &&& (kBit (χ p) ^^^ (-1)) := by rw [← hwe, msk2]
  rw [mAct_mask hR1.1 hp10 8 NL.length 0 _ we0 hms]
  have hb5 : b5 (mPos0 μ (nI p) k b r) := b5_rows h5 rfl
  have hbS := bS_pos0 hS hR hp (k := k) (a := b) (r := r) (by rw [hwe]; exact h4)
  have hf8 : (8 : Nat) = 8 → (∀ a, a < nc → fk a = 8 → ¬ fa a = NL.length) ∧ ∀ s, s < 4 → mPos0 μ (nI p) k b r 9 (50 * s + NL.length) = 0 := fun _ => ⟨fun a ha ha8 e => by have := (hR.2.2.1 a ha).2.2.2.2.1 (by omega); omega, fun s hs => hR.2.2.2.2.2.1.2.1 s NL.length hs (Nat.le_refl _) h50⟩
  have hle : (NL ++ [qn]).length = NL.length + 1 := by rw [List.length_append]; rfl
  have hdl := fun i (hi : i < 4) => (hR.2.2.2.2.2.2.2.2.1 i hi).2.1
  have h9 := RR_act_8 (p := p) (q := NL.length) (td := 0) (sv := we0) hR1 (by omega) (by omega) hp (fun z => absurd z (by omega)) (fun _ => by omega) (fun f hf z => by rw [kHas_0 (by omega)] at z; cases z) hf8 (by omega) (by rw [va_up_self]; exact hk) ht (by rw [va_up_self]; exact he) hx
  rw [up_up, up_up, va_up_self, va_up_self, va_up_self] at h9
  have hc1 := CP_act hP hR (h2 := fun _ j => if j = 0 ∨ j = 2 then e0 else 1234) (s := χ p) (u := qa) (k := 8) (p := p) (q := NL.length) (td := 0) (sv := we0 &&& (kBit (χ p) ^^^ (-1))) (vq_fake e0 (vq_len_mn (vq_len_up hlL) (by omega)) (vq_len_mn (sPk_len hlP 4) (by omega)))
  exact ⟨sw, hm, nt, nw, np, nc + 1, χ, sa, nm + 1, nd2, nca2, NL ++ [qn], nka, nκ, nζ, va_up nα NL.length qn, (va_up nau NL.length p), (va_up nkd NL.length k), (va_up nna NL.length b), (va_up nth NL.length th), va_up nwe NL.length (rWe χ (χ p) p we0 (rTo2 χ (κ (χ p)) t (χ p) p np we0)), va_up nso NL.length (rSo χ (χ p) p 0 (rTo2 χ (κ (χ p)) t (χ p) p np we0)), va_up α nc qa, va_up fk nc 8, va_up fp nc p, va_up fa nc NL.length, va_up ft nc 0, g, h2, (va_up κ (χ p) (kLearn (κ (χ p)) 8 p NL.length 0)), (va_up ζ (χ p) (zLearn (ζ (χ p)) 8 p NL.length)), (va_up L (χ p) (L (χ p) ++ [qa])), (sPk (sPk P qa (we0 &&& (kBit (χ p) ^^^ (-1))) 4) qa (rTo2 χ (κ (χ p)) t (χ p) p np we0) 4), va_up lI (χ p) (lI (χ p) ++ [nc]), (sPk (sPk pI nc (we0 &&& (kBit (χ p) ^^^ (-1))) 4) nc (rTo2 χ (κ (χ p)) t (χ p) p np we0) 4), dl, (va_up δ (χ p) (upd (δ (χ p)) nc 1)), hw, CP_note (CP_snd hc1 (Nat.lt_succ_self nc) (va_up_self α nc qa) hok) hl2, by rw [hle]; exact RR_mn h9 (by omega), b5_act hb5 _ _ _ _ _, bS_act hbS hR1.2.1 0 _ (by omega) (by omega) (by omega) (fun z => absurd z (by omega)), q7_dlt (q7_snd _ (q7_snd _ h7 hdl) (fun i hi => Nat.le_trans (hdl i hi) (sPk_ln pI nc _ i 4).1)), by omega⟩
