/-! what is found again from a log is what was known -/
def kEq (κ κ' : Nat → Nat → Int32) : Prop := ∀ k p, k < 4 → p < 10 → κ k p = κ' k p
def zEq (ζ ζ' : Nat → Nat → Int64) : Prop := (∀ p, p < 10 → ζ 0 p = ζ' 0 p) ∧ ζ 1 0 = ζ' 1 0 ∧ ζ 2 0 = ζ' 2 0
theorem kEq_rf (κ : Nat → Nat → Int32) : kEq κ κ := fun _ _ _ _ => rfl
theorem kEq_tr {a b c : Nat → Nat → Int32} (h : kEq a b) (h2 : kEq b c) : kEq a c := fun k p hk hp => (h k p hk hp).trans (h2 k p hk hp)
theorem kEq_sy {a b : Nat → Nat → Int32} (h : kEq a b) : kEq b a := fun k p hk hp => (h k p hk hp).symm
theorem zEq_tr {a b c : Nat → Nat → Int64} (h : zEq a b) (h2 : zEq b c) : zEq a c := ⟨fun p hp => (h.1 p hp).trans (h2.1 p hp), h.2.1.trans h2.2.1, h.2.2.trans h2.2.2⟩
theorem zEq_sy {a b : Nat → Nat → Int64} (h : zEq a b) : zEq b a := ⟨fun p hp => (h.1 p hp).symm, h.2.1.symm, h.2.2.symm⟩
theorem kEq_up {κ κ' : Nat → Nat → Int32} (h : kEq κ κ') {r p : Nat} {v v' : Int32} (hv : v = v') (hr : r < 4) : kEq (va_up κ r (upd (κ r) p v)) (va_up κ' r (upd (κ' r) p v')) := fun k a hk ha => by
  subst hv
  by_cases e : k = r
  · subst e
    rw [va_up_self, va_up_self]
    by_cases e2 : a = p
    · rw [e2, upd_same, upd_same]
    · rw [upd_ne _ _ e2, upd_ne _ _ e2]; exact h k a hk ha
  · rw [va_up_ne _ _ e, va_up_ne _ _ e]; exact h k a hk ha
theorem kEq_bet {κ κ' : Nat → Nat → Int32} (h : kEq κ κ') {p q : Nat} (hp : p < 10) (hq : q < 10) : kBet κ p q = kBet κ' p q := by rw [kBet, kBet, h 2 p (by omega) hp, h 2 q (by omega) hq]
theorem kEq_st {κ κ' : Nat → Nat → Int32} (h : kEq κ κ') {p o : Nat} (hp : p < 10) : kEq (kSt κ p o) (kSt κ' p o) := by
  have h1 : kEq (va_up κ 0 (upd (κ 0) p (κ 0 p &&& (kBit o ^^^ (-1))))) (va_up κ' 0 (upd (κ' 0) p (κ' 0 p &&& (kBit o ^^^ (-1))))) := kEq_up h (by rw [h 0 p (by omega) hp]) (by omega)
  exact kEq_up (r := 1) (p := p) h1 (by rw [h 1 p (by omega) hp]) (by omega)
theorem kEq_part {κ κ' : Nat → Nat → Int32} (h : kEq κ κ') {p o : Nat} (hp : p < 10) : kEq (kPart κ p o) (kPart κ' p o) := by
  have h1 : kEq (va_up κ 0 (upd (κ 0) p (κ 0 p &&& (kBit o ^^^ (-1))))) (va_up κ' 0 (upd (κ' 0) p (κ' 0 p &&& (kBit o ^^^ (-1))))) := kEq_up h (by rw [h 0 p (by omega) hp]) (by omega)
  exact kEq_up (r := 1) (p := p) h1 (by rw [h 1 p (by omega) hp]) (by omega)
theorem kEq_lm1 {κ κ' : Nat → Nat → Int32} (h : kEq κ κ') {p q i : Nat} (hq : q < 10) (hi : i < 10) : kEq (kLM1 κ p q i) (kLM1 κ' p q i) := by
  have h1 : kEq (va_up κ 1 (upd (κ 1) i (κ 1 i &&& (kBit p ^^^ (-1))))) (va_up κ' 1 (upd (κ' 1) i (κ' 1 i &&& (kBit p ^^^ (-1))))) := kEq_up h (by rw [h 1 i (by omega) hi]) (by omega)
  rw [kLM1, kLM1, kEq_bet h hi hq]
  by_cases c : i = q ∨ kBet κ' i q = true
  · rw [if_pos c, if_pos c]; exact h1
  · rw [if_neg c, if_neg c]; exact kEq_st h1 hi
theorem kEq_lm {κ κ' : Nat → Nat → Int32} (h : kEq κ κ') {p q : Nat} {td : Int32} (hq : q < 10) : ∀ n, n ≤ 10 → kEq (kLM κ p q td n) (kLM κ' p q td n)
  | 0, _ => h
  | n + 1, hn => by
    have ih := kEq_lm h (p := p) (td := td) hq n (by omega)
    rw [kLM, kLM]
    by_cases c : kHas td n = true
    · rw [if_pos c, if_pos c]; exact kEq_lm1 ih hq (by omega)
    · rw [if_neg c, if_neg c]; exact ih
theorem kEq_learn {κ κ' : Nat → Nat → Int32} (h : kEq κ κ') {k p q : Nat} {td : Int32} (hk : k < 11) (hp : p < 10) (hq : k < 8 → q < 10) : kEq (kLearn κ k p q td) (kLearn κ' k p q td) := by
  have hc : k = 0 ∨ k = 1 ∨ k = 2 ∨ k = 3 ∨ k = 4 ∨ k = 5 ∨ k = 6 ∨ k = 7 ∨ 8 ≤ k := by omega
  rcases hc with rfl | rfl | rfl | rfl | rfl | rfl | rfl | rfl | h8
  · have hq := hq (by omega)
    show kEq (kLF κ p q) (kLF κ' p q)
    rw [kLF, kLF, kEq_bet h hp hq, h 1 p (by omega) hp]
    by_cases c : kHas (κ' 1 p) q = true ∨ kBet κ' p q = true
    · rw [if_pos c, if_pos c]; exact h
    · rw [if_neg c, if_neg c]; exact kEq_up h (by rw [h 0 p (by omega) hp]) (by omega)
  · have hq := hq (by omega)
    show kEq (kLA κ p q) (kLA κ' p q)
    rw [kLA, kLA, h 0 q (by omega) hq]
    by_cases c : kHas (κ' 0 q) p = true
    · rw [if_pos c, if_pos c]; exact kEq_st h hq
    · rw [if_neg c, if_neg c]; exact h
  · have hq := hq (by omega)
    exact kEq_up (r := 0) (p := q) h (by rw [h 0 q (by omega) hq]) (by omega)
  · exact kEq_part h hp
  · have hq := hq (by omega)
    have h1 := kEq_part (o := p) (kEq_part (o := q) h hp) hq
    have h2 : κ 2 p = κ' 2 p := h 2 p (by omega) hp
    intro r a hr ha
    by_cases e : r = 2
    · subst e
      show upd (κ 2) p (κ 2 p ||| kBit q) a = upd (κ' 2) p (κ' 2 p ||| kBit q) a
      by_cases e2 : a = p
      · rw [e2, upd_same, upd_same, h2]
      · rw [upd_ne _ _ e2, upd_ne _ _ e2]; exact h 2 a (by omega) ha
    · show va_up (kPart (kPart κ p q) q p) 2 _ r a = va_up (kPart (kPart κ' p q) q p) 2 _ r a
      rw [va_up_ne _ _ e, va_up_ne _ _ e]
      exact h1 r a hr ha
  · exact kEq_up (r := 2) (p := p) h (by rw [h 2 p (by omega) hp]) (by omega)
  · exact kEq_up (r := 3) (p := p) h rfl (by omega)
  · exact kEq_lm h (hq (by omega)) 10 (Nat.le_refl _)
  · have e : ∀ κ, kLearn κ k p q td = κ := fun κ => by
      rw [kLearn, if_neg (by omega), if_neg (by omega), if_neg (by omega), if_neg (by omega), if_neg (by omega), if_neg (by omega), if_neg (by omega), if_neg (by omega)]
    rw [e, e]; exact h
theorem zEq_learn {ζ ζ' : Nat → Nat → Int64} (h : zEq ζ ζ') {k p n : Nat} (hp : p < 10) : zEq (zLearn ζ k p n) (zLearn ζ' k p n) := by
  obtain ⟨h0, h1, h2⟩ := h
  rw [zLearn, zLearn]
  by_cases c8 : k = 8
  · rw [if_pos c8, if_pos c8]
    exact ⟨h0, by show ζ 1 0 ||| kBL n = ζ' 1 0 ||| kBL n; rw [h1], h2⟩
  by_cases c9 : k = 9
  · rw [if_neg c8, if_neg c8, if_pos c9, if_pos c9]
    exact ⟨h0, h1, by show ζ 2 0 ||| kBL n = ζ' 2 0 ||| kBL n; rw [h2]⟩
  by_cases c10 : k = 10
  · rw [if_neg c8, if_neg c8, if_neg c9, if_neg c9, if_pos c10, if_pos c10]
    refine ⟨fun a ha => ?_, by show ζ 1 0 ||| kBL n = ζ' 1 0 ||| kBL n; rw [h1], h2⟩
    show vp_updL (ζ 0) p (ζ 0 p ||| kBL n) a = vp_updL (ζ' 0) p (ζ' 0 p ||| kBL n) a
    rw [vp_updL, vp_updL, h0 p hp, h0 a ha]
  · rw [if_neg c8, if_neg c8, if_neg c9, if_neg c9, if_neg c10, if_neg c10]
    exact ⟨h0, h1, h2⟩
theorem kEq_rep {κ κ' : Nat → Nat → Int32} {fk fp fa : Nat → Nat} {ft : Nat → Int32} (h : kEq κ κ') : ∀ l : List Nat, (∀ x ∈ l, fk x < 11 ∧ fp x < 10 ∧ (fk x < 8 → fa x < 10)) → kEq (kRep fk fp fa ft κ l) (kRep fk fp fa ft κ' l)
  | [], _ => h
  | x :: l, hl => by
    obtain ⟨h1, h2, h3⟩ := hl x List.mem_cons_self
    exact kEq_rep (kEq_learn h h1 h2 h3) l (fun y hy => hl y (List.mem_cons_of_mem _ hy))
theorem zEq_rep {ζ ζ' : Nat → Nat → Int64} {fk fp fa : Nat → Nat} (h : zEq ζ ζ') : ∀ l : List Nat, (∀ x ∈ l, fp x < 10) → zEq (zRep fk fp fa ζ l) (zRep fk fp fa ζ' l)
  | [], _ => h
  | x :: l, hl => zEq_rep (zEq_learn h (hl x List.mem_cons_self)) l (fun y hy => hl y (List.mem_cons_of_mem _ hy))
theorem kRep_app (fk fp fa : Nat → Nat) (ft : Nat → Int32) (κ : Nat → Nat → Int32) (l : List Nat) (j : Nat) : kRep fk fp fa ft κ (l ++ [j]) = kLearn (kRep fk fp fa ft κ l) (fk j) (fp j) (fa j) (ft j) := by
  rw [kRep, List.foldl_append]
  rfl
theorem zRep_app (fk fp fa : Nat → Nat) (ζ : Nat → Nat → Int64) (l : List Nat) (j : Nat) : zRep fk fp fa ζ (l ++ [j]) = zLearn (zRep fk fp fa ζ l) (fk j) (fp j) (fa j) := by
  rw [zRep, List.foldl_append]
  rfl
theorem kRep_cons (fk fp fa : Nat → Nat) (ft : Nat → Int32) (κ : Nat → Nat → Int32) (x : Nat) (l : List Nat) : kRep fk fp fa ft κ (x :: l) = kRep fk fp fa ft (kLearn κ (fk x) (fp x) (fa x) (ft x)) l := by
  rw [kRep, List.foldl_cons, kRep]
theorem zRep_cons (fk fp fa : Nat → Nat) (ζ : Nat → Nat → Int64) (x : Nat) (l : List Nat) : zRep fk fp fa ζ (x :: l) = zRep fk fp fa (zLearn ζ (fk x) (fp x) (fa x)) l := by
  rw [zRep, List.foldl_cons, zRep]
theorem kRep_congr {fk fp fa gk gp ga : Nat → Nat} {ft gt : Nat → Int32} (l : List Nat) (κ : Nat → Nat → Int32) (h : ∀ x ∈ l, gk x = fk x ∧ gp x = fp x ∧ ga x = fa x ∧ gt x = ft x) : kRep gk gp ga gt κ l = kRep fk fp fa ft κ l := by
  induction l generalizing κ with
  | nil => rw [kRep, kRep, List.foldl_nil, List.foldl_nil]
  | cons x l ih =>
    obtain ⟨h1, h2, h3, h4⟩ := h x List.mem_cons_self
    rw [kRep_cons, kRep_cons, h1, h2, h3, h4]
    exact ih _ (fun y hy => h y (List.mem_cons_of_mem _ hy))
theorem zRep_congr {fk fp fa gk gp ga : Nat → Nat} (l : List Nat) (ζ : Nat → Nat → Int64) (h : ∀ x ∈ l, gk x = fk x ∧ gp x = fp x ∧ ga x = fa x) : zRep gk gp ga ζ l = zRep fk fp fa ζ l := by
  induction l generalizing ζ with
  | nil => rw [zRep, zRep, List.foldl_nil, List.foldl_nil]
  | cons x l ih =>
    obtain ⟨h1, h2, h3⟩ := h x List.mem_cons_self
    rw [zRep_cons, zRep_cons, h1, h2, h3]
    exact ih _ (fun y hy => h y (List.mem_cons_of_mem _ hy))
theorem kFg_row (κ : Nat → Nat → Int32) {k p : Nat} (hk : k < 4) : ∀ n, kFg κ n k p = if p < n then 0 else κ k p
  | 0 => by rw [kFg, if_neg (by omega)]
  | n + 1 => by
    have ih := fun k hk => kFg_row κ (k := k) (p := p) hk n
    have hu : ∀ m : Nat → Int32, m p = (if p < n then 0 else κ k p) → upd m n 0 p = if p < n + 1 then 0 else κ k p := by
      intro m hm
      by_cases e : p = n
      · subst e; rw [upd_same, if_pos (by omega)]
      · rw [upd_ne _ _ e, hm]
        by_cases c : p < n
        · rw [if_pos c, if_pos (by omega)]
        · rw [if_neg c, if_neg (by omega)]
    have hc : k = 0 ∨ k = 1 ∨ k = 2 ∨ k = 3 := by omega
    rcases hc with rfl | rfl | rfl | rfl
    · exact hu (kFg κ n 0) (ih 0 (by omega))
    · exact hu (kFg κ n 1) (ih 1 (by omega))
    · exact hu (kFg κ n 2) (ih 2 (by omega))
    · exact hu (kFg κ n 3) (ih 3 (by omega))
theorem kEq_fg (κ : Nat → Nat → Int32) : kEq (kFg κ 10) (fun _ _ => 0) := fun k p hk hp => by rw [kFg_row κ hk, if_pos hp]
theorem zFg_row (ζ : Nat → Nat → Int64) {p : Nat} : ∀ n, zFg ζ n 0 p = if p < n then 0 else ζ 0 p
  | 0 => by rw [zFg, if_neg (by omega)]
  | n + 1 => by
    have ih := zFg_row ζ (p := p) n
    show vp_updL (zFg ζ n 0) n 0 p = _
    rw [vp_updL]
    by_cases e : p = n
    · subst e; rw [if_pos rfl, if_pos (by omega)]
    · rw [if_neg e, ih]
      by_cases c : p < n
      · rw [if_pos c, if_pos (by omega)]
      · rw [if_neg c, if_neg (by omega)]
theorem zEq_fg (ζ : Nat → Nat → Int64) : zEq (zFg0 ζ) (fun _ _ => 0) := ⟨fun p hp => by show zFg ζ 10 0 p = 0; rw [zFg_row, if_pos hp], rfl, rfl⟩
theorem kSee_eq {κ κ' : Nat → Nat → Int32} {ζ ζ' : Nat → Nat → Int64} (h : kEq κ κ') (hz : zEq ζ ζ') {p n au : Nat} {kd na : Int32} (hp : p < 10) (hau : au < 10) : kSee κ ζ p n au kd na = kSee κ' ζ' p n au kd na := by
  rw [kSee, kSee, kEq_bet h hp hau, h 1 p (by omega) hp, kLive, kLive, hz.2.1, hz.2.2]
