/-! lists of objects that grow -/
abbrev wJ (a b : va_W) : va_W := a ++ b
theorem vp_swap {ws u u2 r ws2 : va_W} (h1 : ws.Perm (u ++ r)) (h : u.Perm u2) (h2 : (u2 ++ r).Perm ws2) : ws.Perm ws2 := h1.trans ((List.Perm.append_right r h).trans h2)
def vl_caps : List Nat := [10, 15, 22, 33, 49, 73, 109, 163, 244, 366, 549, 823, 1234]
def vl_ok (e0 ld cap : Nat) (L : List Nat) : Prop := (L = [] ∧ ld = e0) ∨ (L ≠ [] ∧ cap ∈ vl_caps ∧ L.length ≤ cap)
def vl_el (L : List Nat) (pl : va_W) (ci : Nat) : Prop := ∀ y ∈ L, ∃ vs, ((y, .inr (ci, vs)) : Nat × va_E) ∈ pl
theorem vl_cap10 {c : Nat} (h : c ∈ vl_caps) : 10 ≤ c ∧ c ≤ 1234 := by
  have h2 : ∀ c ∈ vl_caps, 10 ≤ c ∧ c ≤ 1234 := by decide
  exact h2 c h
theorem vl_capn {c : Nat} (h : c ∈ vl_caps) (h2 : c < 1234) : c + c / 2 ∈ vl_caps := by
  have h3 : ∀ c ∈ vl_caps, c < 1234 → c + c / 2 ∈ vl_caps := by decide
  exact h3 c h h2
/-- the array of a list that is not fresh -/
def La (cy : Nat → ClassId) (ld cap : Nat) (L : List Nat) : va_W := if L = [] then [] else [(ld, .inl (cy 4, cap, .inr (.inr (.inr (.inr (fun j => L[j]?))))))]
theorem La_ne (cy : Nat → ClassId) (ld cap : Nat) {L : List Nat} (h : L ≠ []) : La cy ld cap L = [(ld, .inl (cy 4, cap, .inr (.inr (.inr (.inr (fun j => L[j]?))))))] := if_neg h
theorem La_nil (cy : Nat → ClassId) (ld cap : Nat) : La cy ld cap [] = [] := if_pos rfl
theorem vl_app (L : List Nat) (y : Nat) : va_up (fun j => L[j]?) L.length (some y) = (fun j => (L ++ [y])[j]?) := by
  funext j
  by_cases h : j = L.length
  · subst h; simp [va_up]
  · by_cases h2 : j < L.length
    · simp [va_up, h, List.getElem?_append_left h2]
    · simp [va_up, h, List.getElem?_append_right (Nat.not_lt.mp h2), show ¬ j - L.length = 0 by omega, show L.length ≤ j by omega]
theorem vl_cpy {L : List Nat} {cap : Nat} (h : L.length ≤ cap) : va_cpy (fun j => L[j]?) (fun _ => none) 0 0 cap = (fun j => L[j]?) := by
  funext j
  by_cases h2 : j < cap
  · simp [va_cpy, h2]
  · simp [va_cpy, h2, show L.length ≤ j by omega]
theorem vl_last1 (x y : Nat × va_E) (pl : va_W) : (([x] ++ pl) ++ [y])[1 + pl.length]? = some y := by
  rw [List.getElem?_append_right (by simp; omega)]
  simp
  have : 1 + pl.length - (pl.length + 1) = 0 := by omega
  simp [this]
theorem vl_set1 (x y z : Nat × va_E) (pl : va_W) : (([x] ++ pl) ++ [y]).set (1 + pl.length) z = [x] ++ (pl ++ [z]) := by
  rw [List.set_append_right _ _ (by simp; omega), List.append_assoc]
  have : 1 + pl.length - ([x] ++ pl).length = 0 := by simp; omega
  rw [this]
  rfl
theorem vl_gt0 {v : Nat} (h : 0 < v) (h2 : v < 2 ^ 31) : (0 : Int32) < nI v := nI_lt (a := 0) h h2
theorem vl_nne {a b : Nat} (h : a ≠ b) (ha : a < 2 ^ 31) (hb : b < 2 ^ 31) : nI a ≠ nI b := fun q => h ((nI_eq ha hb).mp q)
theorem vl_ok9 {e0 ld cap y : Nat} {L : List Nat} (h1 : cap ∈ vl_caps) (h2 : (L ++ [y]).length ≤ cap) : vl_ok e0 ld cap (L ++ [y]) := Or.inr ⟨by simp, h1, h2⟩
theorem vl_ok1 {e0 ld cap y : Nat} (h1 : cap ∈ vl_caps) (h2 : 1 ≤ cap) : vl_ok e0 ld cap [y] := Or.inr ⟨by simp, h1, h2⟩
set_option maxHeartbeats 4000000 in
set_option maxRecDepth 100000 in
theorem kJ7_copyOf_6403c (l : Launch) (D : va_G) (cy : Nat → ClassId) (sz e0 mi : Nat) (ld cap nl : Nat) (L : List Nat) (pl : va_W) (ci : Nat) (q : vw_C) (hq : vwCl[ci]? = some q) (hca : Cond.castable q.1 "java/lang/Object" ∈ vg_nwl) (hcap : L.length ≤ cap) (hcl : cap ≤ nl) (hnl : nl ≤ 1234) (hel : vl_el L pl ci) : Met l yJ7_copyOf_6403c wsJ7_copyOf_6403c ({ frames := 1, cells := 1, slots := 1234, locals := 60 }) (vh_P D cy e0 mi [.ref ld, .int (nI nl), .ref mi] sz ([(ld, .inl (cy 4, cap, .inr (.inr (.inr (.inr (fun j => L[j]?))))))] ++ pl)) (vg_Qq (S := Nat) D sz ([(ld, .inl (cy 4, cap, .inr (.inr (.inr (.inr (fun j => L[j]?))))))] ++ pl) (fun r q9 => r = some q9) (fun q9 => [(ld, .inl (cy 4, cap, .inr (.inr (.inr (.inr (fun j => L[j]?))))))] ++ (pl ++ [(q9, .inl (cy 4, nl, .inr (.inr (.inr (.inr (fun j => L[j]?))))))]))) 1 1234 (va_A ([(ld, .inl (cy 4, cap, .inr (.inr (.inr (.inr (fun j => L[j]?))))))] ++ pl) sz) := by
  refine Met.ofW (cc := cJ7_copyOf_6403c) (maxL := 4) (ret := (some (.array (.object "java/lang/Object")))) (by decide) rfl ?_
  intro p e s m args below meth c s₁ BB hml hv
  obtain ⟨rfl, hsz, hP, hE, hD0, hF, hZ⟩ := hv
  have hx := BB.exec
  have hb := BB.bytes
  have hr := BB.returns
  have hts := atoms_spec (ws := wsJ7_copyOf_6403c) BB.pre
  have hown : s.vm.findClass RJ7 = some m.cls := findClass_of_methodNamed BB.named
  have hlocks := BB.notSynchronized
  subst hsz
  have hD := hD0.self (sz := s.heap.size)
  have hA : ∀ q : Nat, s.heap.size ≤ q → (va_A ([(ld, .inl (cy 4, cap, .inr (.inr (.inr (.inr (fun j => L[j]?))))))] ++ pl) s.heap.size) q := fun q h => Or.inr h
  have hS : va_S (va_A ([(ld, .inl (cy 4, cap, .inr (.inr (.inr (.inr (fun j => L[j]?))))))] ++ pl) s.heap.size) s.heap s.heap [] := va_S.rf
  have hl := lv_entry ([.ref ld, .int (nI nl), .ref mi]) (n := 4) (Nat.le_of_ble_eq_true rfl)
  rw [lg_entry_eq]
  generalize (lg_sl ([.ref ld, .int (nI nl), .ref mi]) ++ List.replicate (4 - (lg_sl ([.ref ld, .int (nI nl), .ref mi])).length) Slot.unset).toArray = ls at hl ⊢
  have hl : lv_has ls 4 [(0, .ref ld), (1, .int (nI nl)), (2, .ref mi)] := hl
  have hc10 : (nI cap).toNatClampNeg = cap := nI_clamp (by omega)
  have h00 : (0 : Int32).toNatClampNeg = 0 := rfl
  refine lv_aload_n hx hb dJ7_copyOf_6403c_0 rfl (lv_at hl 2 rfl) ?_
  refine va_ldcM hx hb hown (hts (.classLink RJ7 110 "[Ljava/lang/Object;") (by decide +kernel)) hF.2.1 dJ7_copyOf_6403c_1 ?_
  refine lv_acmp_ne (rx := some mi) (ry := some mi) (tgt := 13) hx hb dJ7_copyOf_6403c_3 (by decide) (fun c9 => absurd rfl c9) (fun _ => ?_)
  refine lv_iload_n hx hb dJ7_copyOf_6403c_6 rfl (lv_at hl 1 rfl) ?_
  refine vh_newO hx hb hown (hts (.classLink RJ7 2 "java/lang/Object") (by decide +kernel)) hF.2.2.2.1 hE hP hD hS hA (N' := nl) (nI_pos (by omega)) (nI_clamp (by omega)) (by omega) (Nat.le_of_ble_eq_true rfl) (by show 0 + nl ≤ 1234; omega) dJ7_copyOf_6403c_7 (fun q1 H hP hD hS => ?_)
  refine lv_goto (tgt := 24) hx hb dJ7_copyOf_6403c_10 (by decide) ?_
  refine lv_astore_n (lv' := [(3, .ref q1), (0, .ref ld), (1, .int (nI nl)), (2, .ref mi)]) hx hb dJ7_copyOf_6403c_24 rfl hl (by decide) rfl (fun ls hl => ?_)
  have hl : lv_has ls 4 [(0, .ref ld), (1, .int (nI nl)), (2, .ref mi), (3, .ref q1)] := lv_sub hl [1, 2, 3, 0] rfl
  refine lv_aload_n hx hb dJ7_copyOf_6403c_25 rfl (lv_at hl 0 rfl) ?_
  refine lv_iconst (v := 0) hx hb dJ7_copyOf_6403c_26 (by decide) ?_
  refine lv_aload_n hx hb dJ7_copyOf_6403c_27 rfl (lv_at hl 3 rfl) ?_
  refine lv_iconst (v := 0) hx hb dJ7_copyOf_6403c_28 (by decide) ?_
  refine lv_aload_n hx hb dJ7_copyOf_6403c_29 rfl (lv_at hl 0 rfl) ?_
  refine va_alen hx hb hE.1 hP 0 4 rfl rfl (v := nI cap) rfl dJ7_copyOf_6403c_30 ?_
  refine lv_iload_n hx hb dJ7_copyOf_6403c_31 rfl (lv_at hl 1 rfl) ?_
  refine va_mmin hx hb (hml.trans hl.1.symm) hown (hts (.methodLink RJ7 304 Lib.Math.min.name) (by decide +kernel)) (hts (.static Lib.Math.min.name) (by decide +kernel)) (hts (.initialized "java/lang/Math") (by decide +kernel)) (hts (.code Lib.Math.min.name Lib.Math.min.code 2 (some .int)) (by decide +kernel)) (Nat.le_of_ble_eq_true rfl) (Nat.le_of_ble_eq_true rfl) (Nat.le_of_ble_eq_true rfl) (by show 0 + nl ≤ 1234; omega) dJ7_copyOf_6403c_32 ?_
  refine vg_tp (nI cap) ((vl_min (a := cap) (b := nl) (by omega) (by omega)).trans (by rw [Nat.min_eq_left hcl])) ?_
  refine va_copyq hx hb (hml.trans hl.1.symm) hown (hts (.methodLink RJ7 150 arraycopyName) (by decide +kernel)) (hts (.native arraycopyName) (by decide +kernel)) (hts (.static arraycopyName) (by decide +kernel)) (hts (.initialized "java/lang/System") (by decide +kernel)) hE.1 hP hD hS 0 (1 + pl.length) 4 4 (C := q.1) (E0 := "java/lang/Object") (E1 := "java/lang/Object") rfl (vl_last1 _ _ _) rfl rfl (by decide) (by decide) (nI_pos (by omega)) (by rw [hc10, h00]; omega) (by rw [hc10, h00]; omega) ?_ ?_ (Nat.le_of_ble_eq_true rfl) (Nat.le_of_ble_eq_true rfl) dJ7_copyOf_6403c_35 (fun H locs hP hD hS => ?_)
  · intro i hi y hy
    obtain ⟨vs, hvs⟩ := hel y (List.mem_of_getElem? hy)
    obtain ⟨k, hk⟩ := List.getElem?_of_mem (List.mem_append_left [((q1, .inl (cy 4, nl, .inr (.inr (.inr (.inr (fun _ => none)))))) : Nat × va_E)] (List.mem_append_right [(((ld, .inl (cy 4, cap, .inr (.inr (.inr (.inr (fun j => L[j]?))))))) : Nat × va_E)] hvs))
    exact va_recv hE.1 hP hq hk
  · intro comp c0 h1 h2
    obtain ⟨c1, t1, f1, f2, f3⟩ := Cond.castable_spec (va_Nw.use (A := #[]) rfl (hE.2 _ hca))
    rw [Option.some.inj (h2.symm.trans f1), Option.some.inj (h1.symm.trans f2)]
    exact f3
  rw [vl_set1, hc10, h00, vl_cpy hcap] at hP hD
  refine lv_aload_n hx hb dJ7_copyOf_6403c_38 rfl (lv_at hl 3 rfl) ?_
  refine W.widen (k := 1) (n := 1234) (by omega) (by omega) ?_
  exact W.aret (v := .ref q1) hx hb hr (Or.inr ⟨_, rfl⟩) (Or.inr ⟨_, rfl⟩) (fun t ht hW => ⟨⟨some q1, q1, rfl, rfl, (by rw [ht]; exact hP), hD⟩, hS.F ht⟩) hS.2.2 dJ7_copyOf_6403c_39

set_option maxHeartbeats 4000000 in
set_option maxRecDepth 100000 in
theorem kJ7_copyOf_1904c (l : Launch) (D : va_G) (cy : Nat → ClassId) (sz e0 mi : Nat) (ld cap nl : Nat) (L : List Nat) (pl : va_W) (ci : Nat) (q : vw_C) (hq : vwCl[ci]? = some q) (hca : Cond.castable q.1 "java/lang/Object" ∈ vg_nwl) (hcap : L.length ≤ cap) (hcl : cap ≤ nl) (hnl : nl ≤ 1234) (hel : vl_el L pl ci) : Met l yJ7_copyOf_1904c wsJ7_copyOf_1904c ({ frames := 2, cells := 1, slots := 1234, locals := 90 }) (vh_P D cy e0 mi [.ref ld, .int (nI nl)] sz ([(ld, .inl (cy 4, cap, .inr (.inr (.inr (.inr (fun j => L[j]?))))))] ++ pl)) (vg_Qq (S := Nat) D sz ([(ld, .inl (cy 4, cap, .inr (.inr (.inr (.inr (fun j => L[j]?))))))] ++ pl) (fun r q9 => r = some q9) (fun q9 => [(ld, .inl (cy 4, cap, .inr (.inr (.inr (.inr (fun j => L[j]?))))))] ++ (pl ++ [(q9, .inl (cy 4, nl, .inr (.inr (.inr (.inr (fun j => L[j]?))))))]))) 1 1234 (va_A ([(ld, .inl (cy 4, cap, .inr (.inr (.inr (.inr (fun j => L[j]?))))))] ++ pl) sz) := by
  refine Met.ofW (cc := cJ7_copyOf_1904c) (maxL := 2) (ret := (some (.array (.object "java/lang/Object")))) (by decide) rfl ?_
  intro p e s m args below meth c s₁ BB hml hv
  obtain ⟨rfl, hsz, hP, hE, hD0, hF, hZ⟩ := hv
  have hx := BB.exec
  have hb := BB.bytes
  have hr := BB.returns
  have hts := atoms_spec (ws := wsJ7_copyOf_1904c) BB.pre
  have hown : s.vm.findClass RJ7 = some m.cls := findClass_of_methodNamed BB.named
  have hlocks := BB.notSynchronized
  subst hsz
  have hD := hD0.self (sz := s.heap.size)
  have hA : ∀ q : Nat, s.heap.size ≤ q → (va_A ([(ld, .inl (cy 4, cap, .inr (.inr (.inr (.inr (fun j => L[j]?))))))] ++ pl) s.heap.size) q := fun q h => Or.inr h
  have hS : va_S (va_A ([(ld, .inl (cy 4, cap, .inr (.inr (.inr (.inr (fun j => L[j]?))))))] ++ pl) s.heap.size) s.heap s.heap [] := va_S.rf
  have hl := lv_entry ([.ref ld, .int (nI nl)]) (n := 2) (Nat.le_of_ble_eq_true rfl)
  rw [lg_entry_eq]
  generalize (lg_sl ([.ref ld, .int (nI nl)]) ++ List.replicate (2 - (lg_sl ([.ref ld, .int (nI nl)])).length) Slot.unset).toArray = ls at hl ⊢
  have hl : lv_has ls 2 [(0, .ref ld), (1, .int (nI nl))] := hl
  refine lv_aload_n hx hb dJ7_copyOf_1904c_0 rfl (lv_at hl 0 rfl) ?_
  refine lv_iload_n hx hb dJ7_copyOf_1904c_1 rfl (lv_at hl 1 rfl) ?_
  refine lv_aload_n hx hb dJ7_copyOf_1904c_2 rfl (lv_at hl 0 rfl) ?_
  refine va_getC (C := "[Ljava/lang/Object;") hx hb (hml.trans hl.1.symm) hown (hts (.methodLink RJ7 86 ⟨"java/lang/Object", "getClass", "()Ljava/lang/Class;"⟩) (by decide +kernel)) hF.2.2.1.use (hts (.selects "[Ljava/lang/Object;" ⟨"java/lang/Object", "getClass", "()Ljava/lang/Class;"⟩ ⟨"java/lang/Object", "getClass", "()Ljava/lang/Class;"⟩) (by decide +kernel)) (hts (.instanceMethod ⟨"java/lang/Object", "getClass", "()Ljava/lang/Class;"⟩) (by decide +kernel)) (hts (.native ⟨"java/lang/Object", "getClass", "()Ljava/lang/Class;"⟩) (by decide +kernel)) hF.2.1 ⟨_, hP 0 _ rfl, rfl, va_nmO (hE.1.2 4 _ rfl).2 rfl⟩ (Nat.le_of_ble_eq_true rfl) (Nat.le_of_ble_eq_true rfl) dJ7_copyOf_1904c_3 ?_
  have hp9 : ([(ld, .inl (cy 4, cap, .inr (.inr (.inr (.inr (fun j => L[j]?))))))] ++ pl : va_W).Perm (([(ld, .inl (cy 4, cap, .inr (.inr (.inr (.inr (fun j => L[j]?))))))] ++ pl) ++ ([] : va_W)) := (vp_pc (fun n9 hn9 h90 => by simp only [hn9, h90] <;> omega))
  refine vj_callq (va_runS (As := [.ref ld, .int (nI nl), .ref mi]) (rest := []) ⟨hx, hb, hml, hown, hts⟩ (kJ7_copyOf_6403c l D cy s.heap.size e0 mi ld cap nl L pl ci q hq hca hcap hcl hnl hel) (va_cwS 3 hts gJ7_copyOf_1904c_J7_copyOf_6403c rfl rfl rfl (by decide +kernel) ⟨Nat.le_of_ble_eq_true rfl, Nat.le_of_ble_eq_true rfl⟩) (vh_P.preS hE hF hZ hS (vj_free (vd_perm hp9 hD) hS hA) (vp_app.mp (vp_perm hP hp9)).1 (vd_app.mp (vd_perm hp9 hD)).1) rfl rfl hl.1 rfl (lv_room (Nat.le_of_ble_eq_true rfl)) dJ7_copyOf_1904c_6 ⟨Nat.le_of_ble_eq_true rfl, Nat.le_of_ble_eq_true rfl⟩) hP hD hS hA hp9 (fun r q9 H locs hr9 hP hD hS => ?_)
  subst hr9
  rw [List.append_nil] at hP hD
  refine W.eq (g2 := F0 m 9 ls [.ref q9]) rfl ?_
  exact W.aret (v := .ref q9) hx hb hr (Or.inr ⟨_, rfl⟩) (Or.inr ⟨_, rfl⟩) (fun t ht hW => ⟨⟨some q9, q9, rfl, rfl, (by rw [ht]; exact hP), hD⟩, hS.F ht⟩) hS.2.2 dJ7_copyOf_1904c_9

set_option maxHeartbeats 4000000 in
set_option maxRecDepth 100000 in
theorem kJx4a65c_grow_92f84_full (l : Launch) (D : va_G) (cy : Nat → ClassId) (sz e0 mi : Nat) (lo : Nat) (mc : Nat) (ld : Nat) (cap : Nat) (L : List Nat) (pl : va_W) (ci : Nat) (q : vw_C) (hq : vwCl[ci]? = some q) (hca : Cond.castable q.1 "java/lang/Object" ∈ vg_nwl) (hfu : L.length = cap) (hcm : cap ∈ vl_caps) (hc2 : cap < 1234) (hel : vl_el L pl ci) : Met l yJx4a65c_grow_92f84 wsJx4a65c_grow_92f84 ({ frames := 3, cells := 1, slots := 1234, locals := 111 }) (vh_P D cy e0 mi [.ref lo, .int (nI (L.length + 1))] sz (wJ ([(lo, .inr (0, [.int (nI mc), .ref ld, .int (nI L.length)]))]) (wJ ([(ld, .inl (cy 4, cap, .inr (.inr (.inr (.inr (fun j => L[j]?))))))]) pl))) (vg_Qq (S := Nat) D sz (wJ ([(lo, .inr (0, [.int (nI mc), .ref ld, .int (nI L.length)]))]) (wJ ([(ld, .inl (cy 4, cap, .inr (.inr (.inr (.inr (fun j => L[j]?))))))]) pl)) (fun r u => r = some u ∧ True) (fun u => wJ ([(lo, .inr (0, [.int (nI mc), .ref u, .int (nI L.length)]))]) (wJ ([(u, .inl (cy 4, cap + cap / 2, .inr (.inr (.inr (.inr (fun j => L[j]?))))))]) pl))) 1 1234 (va_A (wJ ([(lo, .inr (0, [.int (nI mc), .ref ld, .int (nI L.length)]))]) (wJ ([(ld, .inl (cy 4, cap, .inr (.inr (.inr (.inr (fun j => L[j]?))))))]) pl)) sz) := by
  refine Met.ofW (cc := cJx4a65c_grow_92f84) (maxL := 4) (ret := (some (.array (.object "java/lang/Object")))) (by decide) rfl ?_
  intro p e s m args below meth c s₁ BB hml hv
  obtain ⟨rfl, hsz, hP, hE, hD0, hF, hZ⟩ := hv
  have hx := BB.exec
  have hb := BB.bytes
  have hr := BB.returns
  have hts := atoms_spec (ws := wsJx4a65c_grow_92f84) BB.pre
  have hown : s.vm.findClass RJx4a65c = some m.cls := findClass_of_methodNamed BB.named
  have hlocks := BB.notSynchronized
  subst hsz
  have hD := hD0.self (sz := s.heap.size)
  have hA : ∀ q : Nat, s.heap.size ≤ q → (va_A (wJ ([(lo, .inr (0, [.int (nI mc), .ref ld, .int (nI L.length)]))]) (wJ ([(ld, .inl (cy 4, cap, .inr (.inr (.inr (.inr (fun j => L[j]?))))))]) pl)) s.heap.size) q := fun q h => Or.inr h
  have hS : va_S (va_A (wJ ([(lo, .inr (0, [.int (nI mc), .ref ld, .int (nI L.length)]))]) (wJ ([(ld, .inl (cy 4, cap, .inr (.inr (.inr (.inr (fun j => L[j]?))))))]) pl)) s.heap.size) s.heap s.heap [] := va_S.rf
  obtain ⟨A0, hA0⟩ : ∃ A0 : Nat → Prop, A0 = va_A (wJ ([(lo, .inr (0, [.int (nI mc), .ref ld, .int (nI L.length)]))]) (wJ ([(ld, .inl (cy 4, cap, .inr (.inr (.inr (.inr (fun j => L[j]?))))))]) pl)) s.heap.size := ⟨_, rfl⟩
  rw [← hA0]
  rw [← hA0] at hD hA hS hZ
  have hin_RJx4a65c : ∀ w ∈ u_ws RJx4a65c TJx4a65c 3, w ∈ wsJx4a65c_grow_92f84 := by decide +kernel
  have hl := lv_entry ([.ref lo, .int (nI (L.length + 1))]) (n := 4) (Nat.le_of_ble_eq_true rfl)
  rw [lg_entry_eq]
  generalize (lg_sl ([.ref lo, .int (nI (L.length + 1))]) ++ List.replicate (4 - (lg_sl ([.ref lo, .int (nI (L.length + 1))])).length) Slot.unset).toArray = ls at hl ⊢
  have hl : lv_has ls 4 [(0, .ref lo), (1, .int (nI (L.length + 1)))] := hl
  have hc10 := vl_cap10 hcm
  have hc13 := (vl_cap10 (vl_capn hcm hc2)).2
  refine lv_aload_n hx hb dJx4a65c_grow_92f84_0 rfl (lv_at hl 0 rfl) ?_
  refine va_get (D := D) (ci := 0) (v := .ref ld) (C := RJx4a65c) (T := TJx4a65c) (N := 3) hx hb hts hin_RJx4a65c hown hE.1 hP 0 rfl rfl 1 (by decide) (hts (.fieldLink RJx4a65c 9 "java/util/ArrayList" "elementData" "[Ljava/lang/Object;") (by decide +kernel)) (fun _ h9 => h9) rfl dJx4a65c_grow_92f84_1 ?_
  refine va_alen hx hb hE.1 hP 1 4 rfl rfl (v := (nI cap)) rfl dJx4a65c_grow_92f84_4 ?_
  refine lv_istore_n (lv' := [(2, .int (nI cap)), (0, .ref lo), (1, .int (nI (L.length + 1)))]) hx hb dJx4a65c_grow_92f84_5 rfl hl (by decide) rfl (fun ls hl => ?_)
  have hl : lv_has ls 4 [(0, .ref lo), (1, .int (nI (L.length + 1))), (2, .int (nI cap))] := lv_sub hl [1, 2, 0] rfl
  refine lv_iload_n hx hb dJx4a65c_grow_92f84_6 rfl (lv_at hl 2 rfl) ?_
  refine lv_if_gt (tgt := 20) hx hb dJx4a65c_grow_92f84_7 (by decide) (fun _ => ?_) (fun c9 => absurd (vl_gt0 (by omega) (by omega)) c9)
  refine lv_iload_n hx hb dJx4a65c_grow_92f84_20 rfl (lv_at hl 2 rfl) ?_
  refine lv_iload_n hx hb dJx4a65c_grow_92f84_21 rfl (lv_at hl 1 rfl) ?_
  refine lv_iload_n hx hb dJx4a65c_grow_92f84_22 rfl (lv_at hl 2 rfl) ?_
  refine lv_isub hx hb dJx4a65c_grow_92f84_23 ?_
  refine vg_tp (nI (L.length + 1 - cap)) (pk_sub (a := L.length + 1) (b := cap) (by omega)) ?_
  refine lv_iload_n hx hb dJx4a65c_grow_92f84_24 rfl (lv_at hl 2 rfl) ?_
  refine lv_iconst (v := 1) hx hb dJx4a65c_grow_92f84_25 (by decide) ?_
  refine lv_ishr hx hb dJx4a65c_grow_92f84_26 ?_
  refine vg_tp (nI (cap / 2)) (pk_shrN (n := cap) (by omega) (1 &&& 31) 1 (by decide)) ?_
  refine vg_calliP (va_runS (As := [.int (nI cap), .int (nI (L.length + 1 - cap)), .int (nI (cap / 2))]) (rest := []) ⟨hx, hb, hml, hown, hts⟩ (kJ8_newLength_cabcc l D cy s.heap.size cap (L.length + 1 - cap) (cap / 2) (by omega) (by omega)) (va_cwS 3 hts gJx4a65c_grow_92f84_J8_newLength_cabcc rfl rfl rfl (by decide +kernel) ⟨Nat.le_of_ble_eq_true rfl, Nat.le_of_ble_eq_true rfl⟩) (vg_P.preS hE vg_P0 (A := fun _ => True) vg_D0) rfl rfl hl.1 rfl (lv_room (Nat.le_of_ble_eq_true rfl)) dJx4a65c_grow_92f84_27 ⟨Nat.le_of_ble_eq_true rfl, Nat.le_of_ble_eq_true rfl⟩) hP hD hS hA (fun r _ H locs hr hP hD hS => ?_)
  subst hr
  refine vg_tp (nI (cap + cap / 2)) (congrArg nI (by omega)) ?_
  refine lv_istore_n (lv' := [(3, .int (nI (cap + cap / 2))), (0, .ref lo), (1, .int (nI (L.length + 1))), (2, .int (nI cap))]) hx hb dJx4a65c_grow_92f84_30 rfl hl (by decide) rfl (fun ls hl => ?_)
  have hl : lv_has ls 4 [(0, .ref lo), (1, .int (nI (L.length + 1))), (2, .int (nI cap)), (3, .int (nI (cap + cap / 2)))] := lv_sub hl [1, 2, 3, 0] rfl
  refine lv_aload_n hx hb dJx4a65c_grow_92f84_31 rfl (lv_at hl 0 rfl) ?_
  refine lv_aload_n hx hb dJx4a65c_grow_92f84_32 rfl (lv_at hl 0 rfl) ?_
  refine va_get (D := D) (ci := 0) (v := .ref ld) (C := RJx4a65c) (T := TJx4a65c) (N := 3) hx hb hts hin_RJx4a65c hown hE.1 hP 0 rfl rfl 1 (by decide) (hts (.fieldLink RJx4a65c 9 "java/util/ArrayList" "elementData" "[Ljava/lang/Object;") (by decide +kernel)) (fun _ h9 => h9) rfl dJx4a65c_grow_92f84_33 ?_
  refine lv_iload_n hx hb dJx4a65c_grow_92f84_36 rfl (lv_at hl 3 rfl) ?_
  have hp9 : (wJ ([(lo, .inr (0, [.int (nI mc), .ref ld, .int (nI L.length)]))]) (wJ ([(ld, .inl (cy 4, cap, .inr (.inr (.inr (.inr (fun j => L[j]?))))))]) pl) : va_W).Perm (wJ (wJ ([(ld, .inl (cy 4, cap, .inr (.inr (.inr (.inr (fun j => L[j]?))))))]) pl) ([(lo, .inr (0, [.int (nI mc), .ref ld, .int (nI L.length)]))])) := (vp_pc (fun n9 hn9 h90 => by simp only [wJ, hn9, h90, Nat.add_zero, Nat.zero_add] <;> ac_rfl))
  refine vj_callq (va_runS (As := [.ref ld, .int (nI (cap + cap / 2))]) (rest := [.ref lo]) ⟨hx, hb, hml, hown, hts⟩ (kJ7_copyOf_1904c l D cy H.size e0 mi ld cap (cap + cap / 2) L pl ci q hq hca (by omega) (by omega) (by omega) hel) (va_cwS 2 hts gJx4a65c_grow_92f84_J7_copyOf_1904c rfl rfl rfl (by decide +kernel) ⟨Nat.le_of_ble_eq_true rfl, Nat.le_of_ble_eq_true rfl⟩) (vh_P.preS hE hF hZ hS (vj_free (vd_perm hp9 hD) hS hA) (vp_app.mp (vp_perm hP hp9)).1 (vd_app.mp (vd_perm hp9 hD)).1) rfl rfl hl.1 rfl (lv_room (Nat.le_of_ble_eq_true rfl)) dJx4a65c_grow_92f84_37 ⟨Nat.le_of_ble_eq_true rfl, Nat.le_of_ble_eq_true rfl⟩) hP hD hS hA hp9 (fun r a2 H locs hr hP hD hS => ?_)
  subst hr
  have hp7 : (wJ (wJ ([(ld, .inl (cy 4, cap, .inr (.inr (.inr (.inr (fun j => L[j]?))))))]) (wJ pl ([(a2, .inl (cy 4, cap + cap / 2, .inr (.inr (.inr (.inr (fun j => L[j]?))))))]))) ([(lo, .inr (0, [.int (nI mc), .ref ld, .int (nI L.length)]))]) : va_W).Perm (wJ ([(ld, .inl (cy 4, cap, .inr (.inr (.inr (.inr (fun j => L[j]?))))))]) (wJ ([(a2, .inl (cy 4, cap + cap / 2, .inr (.inr (.inr (.inr (fun j => L[j]?))))))]) (wJ ([(lo, .inr (0, [.int (nI mc), .ref ld, .int (nI L.length)]))]) pl))) := (vp_pc (fun n9 hn9 h90 => by simp only [wJ, hn9, h90, Nat.add_zero, Nat.zero_add] <;> ac_rfl))
  have hP : va_P D vwCl (wJ ([(ld, .inl (cy 4, cap, .inr (.inr (.inr (.inr (fun j => L[j]?))))))]) (wJ ([(a2, .inl (cy 4, cap + cap / 2, .inr (.inr (.inr (.inr (fun j => L[j]?))))))]) (wJ ([(lo, .inr (0, [.int (nI mc), .ref ld, .int (nI L.length)]))]) pl))) H := vp_perm hP hp7
  have hD : va_D A0 (wJ ([(ld, .inl (cy 4, cap, .inr (.inr (.inr (.inr (fun j => L[j]?))))))]) (wJ ([(a2, .inl (cy 4, cap + cap / 2, .inr (.inr (.inr (.inr (fun j => L[j]?))))))]) (wJ ([(lo, .inr (0, [.int (nI mc), .ref ld, .int (nI L.length)]))]) pl))) := vd_perm hp7 hD
  refine W.eq (g2 := F0 m 40 ls [.ref a2, .ref lo]) rfl ?_
  refine lv_dup_x1 hx hb dJx4a65c_grow_92f84_40 rfl rfl ?_
  have hp7 : (wJ ([(ld, .inl (cy 4, cap, .inr (.inr (.inr (.inr (fun j => L[j]?))))))]) (wJ ([(a2, .inl (cy 4, cap + cap / 2, .inr (.inr (.inr (.inr (fun j => L[j]?))))))]) (wJ ([(lo, .inr (0, [.int (nI mc), .ref ld, .int (nI L.length)]))]) pl)) : va_W).Perm (wJ (wJ ([(a2, .inl (cy 4, cap + cap / 2, .inr (.inr (.inr (.inr (fun j => L[j]?))))))]) (wJ ([(lo, .inr (0, [.int (nI mc), .ref ld, .int (nI L.length)]))]) pl)) ([(ld, .inl (cy 4, cap, .inr (.inr (.inr (.inr (fun j => L[j]?))))))])) := (vp_pc (fun n9 hn9 h90 => by simp only [wJ, hn9, h90, Nat.add_zero, Nat.zero_add] <;> ac_rfl))
  have hP : va_P D vwCl (wJ ([(a2, .inl (cy 4, cap + cap / 2, .inr (.inr (.inr (.inr (fun j => L[j]?))))))]) (wJ ([(lo, .inr (0, [.int (nI mc), .ref ld, .int (nI L.length)]))]) pl)) H := (vp_app.mp (vp_perm hP hp7)).1
  have hD : va_D A0 (wJ ([(a2, .inl (cy 4, cap + cap / 2, .inr (.inr (.inr (.inr (fun j => L[j]?))))))]) (wJ ([(lo, .inr (0, [.int (nI mc), .ref ld, .int (nI L.length)]))]) pl)) := (vd_app.mp (vd_perm hp7 hD)).1
  refine va_put (D := (D)) (ci := 0) (v := .ref a2) (ty := .array (.object "java/lang/Object")) (C := RJx4a65c) (T := TJx4a65c) (N := 3) hx hb hts hin_RJx4a65c tyJx4a65c tyJx4a65c_ok nmJx4a65c hown hE.1 hP hD hS 1 rfl rfl 1 (by decide) (hts (.fieldLink RJx4a65c 9 "java/util/ArrayList" "elementData" "[Ljava/lang/Object;") (by decide +kernel)) (fun _ h9 => h9) rfl (by decide +kernel) rfl rfl (Nat.le_of_ble_eq_true rfl) dJx4a65c_grow_92f84_41 (fun H locs hP hD hS => ?_)
  have hP : va_P D vwCl (wJ ([(a2, .inl (cy 4, cap + cap / 2, .inr (.inr (.inr (.inr (fun j => L[j]?))))))]) (wJ ([(lo, .inr (0, [.int (nI mc), .ref a2, .int (nI L.length)]))]) pl)) H := hP
  have hD : va_D A0 (wJ ([(a2, .inl (cy 4, cap + cap / 2, .inr (.inr (.inr (.inr (fun j => L[j]?))))))]) (wJ ([(lo, .inr (0, [.int (nI mc), .ref a2, .int (nI L.length)]))]) pl)) := hD
  have hp8 : (wJ ([(a2, .inl (cy 4, cap + cap / 2, .inr (.inr (.inr (.inr (fun j => L[j]?))))))]) (wJ ([(lo, .inr (0, [.int (nI mc), .ref a2, .int (nI L.length)]))]) pl) : va_W).Perm (wJ ([(lo, .inr (0, [.int (nI mc), .ref a2, .int (nI L.length)]))]) (wJ ([(a2, .inl (cy 4, cap + cap / 2, .inr (.inr (.inr (.inr (fun j => L[j]?))))))]) pl)) := (vp_pc (fun n9 hn9 h90 => by simp only [wJ, hn9, h90, Nat.add_zero, Nat.zero_add] <;> ac_rfl))
  have hP : va_P D vwCl (wJ ([(lo, .inr (0, [.int (nI mc), .ref a2, .int (nI L.length)]))]) (wJ ([(a2, .inl (cy 4, cap + cap / 2, .inr (.inr (.inr (.inr (fun j => L[j]?))))))]) pl)) H := vp_perm hP hp8
  have hD : va_D A0 (wJ ([(lo, .inr (0, [.int (nI mc), .ref a2, .int (nI L.length)]))]) (wJ ([(a2, .inl (cy 4, cap + cap / 2, .inr (.inr (.inr (.inr (fun j => L[j]?))))))]) pl)) := vd_perm hp8 hD
  subst hA0
  refine W.widen (k := 1) (n := 1234) (by omega) (by omega) ?_
  exact W.aret (v := .ref a2) hx hb hr (Or.inr ⟨_, rfl⟩) (Or.inr ⟨_, rfl⟩) (fun t ht hW => ⟨⟨some a2, a2, rfl, ⟨rfl, trivial⟩, (by rw [ht]; exact hP), hD⟩, hS.F ht⟩) hS.2.2 dJx4a65c_grow_92f84_44

set_option maxHeartbeats 4000000 in
set_option maxRecDepth 100000 in
theorem kJx4a65c_grow_92f84_fresh (l : Launch) (D : va_G) (cy : Nat → ClassId) (sz e0 mi : Nat) (lo : Nat) (mc : Nat)  : Met l yJx4a65c_grow_92f84 wsJx4a65c_grow_92f84 ({ frames := 1, cells := 1, slots := 1234, locals := 14 }) (vh_P D cy e0 mi [.ref lo, .int (nI (0 + 1))] sz ([(lo, .inr (0, [.int (nI mc), .ref e0, .int (nI 0)]))])) (vg_Qq (S := Nat) D sz ([(lo, .inr (0, [.int (nI mc), .ref e0, .int (nI 0)]))]) (fun r u => r = some u ∧ True) (fun u => wJ ([(lo, .inr (0, [.int (nI mc), .ref u, .int (nI 0)]))]) ([(u, .inl (cy 4, 10, .inr (.inr (.inr (.inr (fun _ => none))))))]))) 1 1234 (va_A ([(lo, .inr (0, [.int (nI mc), .ref e0, .int (nI 0)]))]) sz) := by
  refine Met.ofW (cc := cJx4a65c_grow_92f84) (maxL := 4) (ret := (some (.array (.object "java/lang/Object")))) (by decide) rfl ?_
  intro p e s m args below meth c s₁ BB hml hv
  obtain ⟨rfl, hsz, hP, hE, hD0, hF, hZ⟩ := hv
  have hx := BB.exec
  have hb := BB.bytes
  have hr := BB.returns
  have hts := atoms_spec (ws := wsJx4a65c_grow_92f84) BB.pre
  have hown : s.vm.findClass RJx4a65c = some m.cls := findClass_of_methodNamed BB.named
  have hlocks := BB.notSynchronized
  subst hsz
  have hD := hD0.self (sz := s.heap.size)
  have hA : ∀ q : Nat, s.heap.size ≤ q → (va_A ([(lo, .inr (0, [.int (nI mc), .ref e0, .int (nI 0)]))]) s.heap.size) q := fun q h => Or.inr h
  have hS : va_S (va_A ([(lo, .inr (0, [.int (nI mc), .ref e0, .int (nI 0)]))]) s.heap.size) s.heap s.heap [] := va_S.rf
  obtain ⟨A0, hA0⟩ : ∃ A0 : Nat → Prop, A0 = va_A ([(lo, .inr (0, [.int (nI mc), .ref e0, .int (nI 0)]))]) s.heap.size := ⟨_, rfl⟩
  rw [← hA0]
  rw [← hA0] at hD hA hS hZ
  have hin_RJx4a65c : ∀ w ∈ u_ws RJx4a65c TJx4a65c 3, w ∈ wsJx4a65c_grow_92f84 := by decide +kernel
  have hl := lv_entry ([.ref lo, .int (nI (0 + 1))]) (n := 4) (Nat.le_of_ble_eq_true rfl)
  rw [lg_entry_eq]
  generalize (lg_sl ([.ref lo, .int (nI (0 + 1))]) ++ List.replicate (4 - (lg_sl ([.ref lo, .int (nI (0 + 1))])).length) Slot.unset).toArray = ls at hl ⊢
  have hl : lv_has ls 4 [(0, .ref lo), (1, .int (nI (0 + 1)))] := hl
  refine lv_aload_n hx hb dJx4a65c_grow_92f84_0 rfl (lv_at hl 0 rfl) ?_
  refine va_get (D := D) (ci := 0) (v := .ref e0) (C := RJx4a65c) (T := TJx4a65c) (N := 3) hx hb hts hin_RJx4a65c hown hE.1 hP 0 rfl rfl 1 (by decide) (hts (.fieldLink RJx4a65c 9 "java/util/ArrayList" "elementData" "[Ljava/lang/Object;") (by decide +kernel)) (fun _ h9 => h9) rfl dJx4a65c_grow_92f84_1 ?_
  refine vh_len0 hx hb hE hS hZ dJx4a65c_grow_92f84_4 ?_
  refine lv_istore_n (lv' := [(2, .int 0), (0, .ref lo), (1, .int (nI (0 + 1)))]) hx hb dJx4a65c_grow_92f84_5 rfl hl (by decide) rfl (fun ls hl => ?_)
  have hl : lv_has ls 4 [(0, .ref lo), (1, .int (nI (0 + 1))), (2, .int 0)] := lv_sub hl [1, 2, 0] rfl
  refine lv_iload_n hx hb dJx4a65c_grow_92f84_6 rfl (lv_at hl 2 rfl) ?_
  refine lv_if_gt (tgt := 20) hx hb dJx4a65c_grow_92f84_7 (by decide) (fun c9 => False.elim (by revert c9; decide)) (fun _ => ?_)
  refine lv_aload_n hx hb dJx4a65c_grow_92f84_10 rfl (lv_at hl 0 rfl) ?_
  refine va_get (D := D) (ci := 0) (v := .ref e0) (C := RJx4a65c) (T := TJx4a65c) (N := 3) hx hb hts hin_RJx4a65c hown hE.1 hP 0 rfl rfl 1 (by decide) (hts (.fieldLink RJx4a65c 9 "java/util/ArrayList" "elementData" "[Ljava/lang/Object;") (by decide +kernel)) (fun _ h9 => h9) rfl dJx4a65c_grow_92f84_11 ?_
  refine va_gets hx hb hZ.2.1 hS hown (hts (.fieldLink RJx4a65c 39 "java/util/ArrayList" "DEFAULTCAPACITY_EMPTY_ELEMENTDATA" "[Ljava/lang/Object;") (by decide +kernel)) (fun _ h9 => h9) dJx4a65c_grow_92f84_14 ?_
  refine lv_acmp_eq (rx := some e0) (ry := some e0) (tgt := 45) hx hb dJx4a65c_grow_92f84_17 (by decide) (fun _ => ?_) (fun c9 => absurd rfl c9)
  refine lv_aload_n hx hb dJx4a65c_grow_92f84_45 rfl (lv_at hl 0 rfl) ?_
  refine lv_bipush (v := 10) hx hb dJx4a65c_grow_92f84_46 (by decide) ?_
  refine lv_iload_n hx hb dJx4a65c_grow_92f84_48 rfl (lv_at hl 1 rfl) ?_
  refine va_mmax hx hb (hml.trans hl.1.symm) hown (hts (.methodLink RJx4a65c 79 Lib.Math.max.name) (by decide +kernel)) (hts (.static Lib.Math.max.name) (by decide +kernel)) (hts (.initialized "java/lang/Math") (by decide +kernel)) (hts (.code Lib.Math.max.name Lib.Math.max.code 2 (some .int)) (by decide +kernel)) (Nat.le_of_ble_eq_true rfl) (Nat.le_of_ble_eq_true rfl) (Nat.le_of_ble_eq_true rfl) (Nat.le_of_ble_eq_true rfl) dJx4a65c_grow_92f84_49 ?_
  refine vg_tp 10 (by decide) ?_
  refine vg_tp (nI 10) rfl ?_
  refine vh_newO hx hb hown (hts (.classLink RJx4a65c 7 "java/lang/Object") (by decide +kernel)) hF.2.2.2.1 hE hP hD hS hA (N' := 10) (nI_pos (by omega)) (nI_clamp (by omega)) (by omega) (Nat.le_of_ble_eq_true rfl) (Nat.le_of_ble_eq_true rfl) dJx4a65c_grow_92f84_52 (fun q2 H hP hD hS => ?_)
  have hp7 : (wJ ([(lo, .inr (0, [.int (nI mc), .ref e0, .int (nI 0)]))]) ([(q2, .inl (cy 4, 10, .inr (.inr (.inr (.inr (fun _ => none))))))]) : va_W).Perm (wJ ([(lo, .inr (0, [.int (nI mc), .ref e0, .int (nI 0)]))]) ([(q2, .inl (cy 4, 10, .inr (.inr (.inr (.inr (fun _ => none))))))])) := (List.Perm.refl _)
  have hP : va_P D vwCl (wJ ([(lo, .inr (0, [.int (nI mc), .ref e0, .int (nI 0)]))]) ([(q2, .inl (cy 4, 10, .inr (.inr (.inr (.inr (fun _ => none))))))])) H := vp_perm hP hp7
  have hD : va_D A0 (wJ ([(lo, .inr (0, [.int (nI mc), .ref e0, .int (nI 0)]))]) ([(q2, .inl (cy 4, 10, .inr (.inr (.inr (.inr (fun _ => none))))))])) := vd_perm hp7 hD
  refine lv_dup_x1 hx hb dJx4a65c_grow_92f84_55 rfl rfl ?_
  refine va_put (D := (D)) (ci := 0) (v := .ref q2) (ty := .array (.object "java/lang/Object")) (C := RJx4a65c) (T := TJx4a65c) (N := 3) hx hb hts hin_RJx4a65c tyJx4a65c tyJx4a65c_ok nmJx4a65c hown hE.1 hP hD hS 0 rfl rfl 1 (by decide) (hts (.fieldLink RJx4a65c 9 "java/util/ArrayList" "elementData" "[Ljava/lang/Object;") (by decide +kernel)) (fun _ h9 => h9) rfl (by decide +kernel) rfl rfl (Nat.le_of_ble_eq_true rfl) dJx4a65c_grow_92f84_56 (fun H locs hP hD hS => ?_)
  have hP : va_P D vwCl (wJ ([(lo, .inr (0, [.int (nI mc), .ref q2, .int (nI 0)]))]) ([(q2, .inl (cy 4, 10, .inr (.inr (.inr (.inr (fun _ => none))))))])) H := hP
  have hD : va_D A0 (wJ ([(lo, .inr (0, [.int (nI mc), .ref q2, .int (nI 0)]))]) ([(q2, .inl (cy 4, 10, .inr (.inr (.inr (.inr (fun _ => none))))))])) := hD
  subst hA0
  refine W.widen (k := 1) (n := 1234) (by omega) (by omega) ?_
  exact W.aret (v := .ref q2) hx hb hr (Or.inr ⟨_, rfl⟩) (Or.inr ⟨_, rfl⟩) (fun t ht hW => ⟨⟨some q2, q2, rfl, ⟨rfl, trivial⟩, (by rw [ht]; exact hP), hD⟩, hS.F ht⟩) hS.2.2 dJx4a65c_grow_92f84_59

set_option maxHeartbeats 4000000 in
set_option maxRecDepth 100000 in
theorem kJx4a65c_grow_d5877_full (l : Launch) (D : va_G) (cy : Nat → ClassId) (sz e0 mi : Nat) (lo : Nat) (mc : Nat) (ld : Nat) (cap : Nat) (L : List Nat) (pl : va_W) (ci : Nat) (q : vw_C) (hq : vwCl[ci]? = some q) (hca : Cond.castable q.1 "java/lang/Object" ∈ vg_nwl) (hfu : L.length = cap) (hcm : cap ∈ vl_caps) (hc2 : cap < 1234) (hel : vl_el L pl ci) : Met l yJx4a65c_grow_d5877 wsJx4a65c_grow_d5877 ({ frames := 4, cells := 1, slots := 1234, locals := 134 }) (vh_P D cy e0 mi [.ref lo] sz (wJ ([(lo, .inr (0, [.int (nI mc), .ref ld, .int (nI L.length)]))]) (wJ ([(ld, .inl (cy 4, cap, .inr (.inr (.inr (.inr (fun j => L[j]?))))))]) pl))) (vg_Qq (S := Nat) D sz (wJ ([(lo, .inr (0, [.int (nI mc), .ref ld, .int (nI L.length)]))]) (wJ ([(ld, .inl (cy 4, cap, .inr (.inr (.inr (.inr (fun j => L[j]?))))))]) pl)) (fun r u => r = some u ∧ True) (fun u => wJ ([(lo, .inr (0, [.int (nI mc), .ref u, .int (nI L.length)]))]) (wJ ([(u, .inl (cy 4, cap + cap / 2, .inr (.inr (.inr (.inr (fun j => L[j]?))))))]) pl))) 1 1234 (va_A (wJ ([(lo, .inr (0, [.int (nI mc), .ref ld, .int (nI L.length)]))]) (wJ ([(ld, .inl (cy 4, cap, .inr (.inr (.inr (.inr (fun j => L[j]?))))))]) pl)) sz) := by
  refine Met.ofW (cc := cJx4a65c_grow_d5877) (maxL := 1) (ret := (some (.array (.object "java/lang/Object")))) (by decide) rfl ?_
  intro p e s m args below meth c s₁ BB hml hv
  obtain ⟨rfl, hsz, hP, hE, hD0, hF, hZ⟩ := hv
  have hx := BB.exec
  have hb := BB.bytes
  have hr := BB.returns
  have hts := atoms_spec (ws := wsJx4a65c_grow_d5877) BB.pre
  have hown : s.vm.findClass RJx4a65c = some m.cls := findClass_of_methodNamed BB.named
  have hlocks := BB.notSynchronized
  subst hsz
  have hD := hD0.self (sz := s.heap.size)
  have hA : ∀ q : Nat, s.heap.size ≤ q → (va_A (wJ ([(lo, .inr (0, [.int (nI mc), .ref ld, .int (nI L.length)]))]) (wJ ([(ld, .inl (cy 4, cap, .inr (.inr (.inr (.inr (fun j => L[j]?))))))]) pl)) s.heap.size) q := fun q h => Or.inr h
  have hS : va_S (va_A (wJ ([(lo, .inr (0, [.int (nI mc), .ref ld, .int (nI L.length)]))]) (wJ ([(ld, .inl (cy 4, cap, .inr (.inr (.inr (.inr (fun j => L[j]?))))))]) pl)) s.heap.size) s.heap s.heap [] := va_S.rf
  obtain ⟨A0, hA0⟩ : ∃ A0 : Nat → Prop, A0 = va_A (wJ ([(lo, .inr (0, [.int (nI mc), .ref ld, .int (nI L.length)]))]) (wJ ([(ld, .inl (cy 4, cap, .inr (.inr (.inr (.inr (fun j => L[j]?))))))]) pl)) s.heap.size := ⟨_, rfl⟩
  rw [← hA0]
  rw [← hA0] at hD hA hS hZ
  have hin_RJx4a65c : ∀ w ∈ u_ws RJx4a65c TJx4a65c 3, w ∈ wsJx4a65c_grow_d5877 := by decide +kernel
  have hl := lv_entry ([.ref lo]) (n := 1) (Nat.le_of_ble_eq_true rfl)
  rw [lg_entry_eq]
  generalize (lg_sl ([.ref lo]) ++ List.replicate (1 - (lg_sl ([.ref lo])).length) Slot.unset).toArray = ls at hl ⊢
  have hl : lv_has ls 1 [(0, .ref lo)] := hl
  refine lv_aload_n hx hb dJx4a65c_grow_d5877_0 rfl (lv_at hl 0 rfl) ?_
  refine lv_aload_n hx hb dJx4a65c_grow_d5877_1 rfl (lv_at hl 0 rfl) ?_
  refine va_get (D := D) (ci := 0) (v := .int (nI L.length)) (C := RJx4a65c) (T := TJx4a65c) (N := 3) hx hb hts hin_RJx4a65c hown hE.1 hP 0 rfl rfl 2 (by decide) (hts (.fieldLink RJx4a65c 48 "java/util/ArrayList" "size" "I") (by decide +kernel)) (fun _ h9 => h9) rfl dJx4a65c_grow_d5877_2 ?_
  refine lv_iconst (v := 1) hx hb dJx4a65c_grow_d5877_5 (by decide) ?_
  refine lv_iadd hx hb dJx4a65c_grow_d5877_6 ?_
  refine vg_tp (nI (L.length + 1)) (nI_add L.length 1) ?_
  have hp9 : (wJ ([(lo, .inr (0, [.int (nI mc), .ref ld, .int (nI L.length)]))]) (wJ ([(ld, .inl (cy 4, cap, .inr (.inr (.inr (.inr (fun j => L[j]?))))))]) pl) : va_W).Perm (wJ (wJ ([(lo, .inr (0, [.int (nI mc), .ref ld, .int (nI L.length)]))]) (wJ ([(ld, .inl (cy 4, cap, .inr (.inr (.inr (.inr (fun j => L[j]?))))))]) pl)) ([] : va_W)) := (vp_pc (fun n9 hn9 h90 => by simp only [wJ, hn9, h90, Nat.add_zero, Nat.zero_add] <;> ac_rfl))
  refine vj_callq (va_runV (As := [.int (nI (L.length + 1))]) (rest := []) ⟨hx, hb, hml, hown, hts⟩ (kJx4a65c_grow_92f84_full l D cy s.heap.size e0 mi lo mc ld cap L pl ci q hq hca hfu hcm hc2 hel) (cwV 1 hts gJx4a65c_grow_d5877_Jx4a65c_grow_92f84 rfl rfl rfl (by decide +kernel) ⟨Nat.le_of_ble_eq_true rfl, Nat.le_of_ble_eq_true rfl⟩) (vh_P.preV hE hF hZ hS (vj_free (vd_perm hp9 hD) hS hA) hP 0 rfl rfl (vp_app.mp (vp_perm hP hp9)).1 (vd_app.mp (vd_perm hp9 hD)).1) rfl rfl hl.1 rfl (lv_room (Nat.le_of_ble_eq_true rfl)) dJx4a65c_grow_d5877_7 ⟨Nat.le_of_ble_eq_true rfl, Nat.le_of_ble_eq_true rfl⟩) hP hD hS hA hp9 (fun r a1 H locs ⟨hr, _⟩ hP hD hS => ?_)
  subst hr
  have hp7 : (wJ (wJ ([(lo, .inr (0, [.int (nI mc), .ref a1, .int (nI L.length)]))]) (wJ ([(a1, .inl (cy 4, cap + cap / 2, .inr (.inr (.inr (.inr (fun j => L[j]?))))))]) pl)) ([] : va_W) : va_W).Perm (wJ ([(lo, .inr (0, [.int (nI mc), .ref a1, .int (nI L.length)]))]) (wJ ([(a1, .inl (cy 4, cap + cap / 2, .inr (.inr (.inr (.inr (fun j => L[j]?))))))]) pl)) := (vp_pc (fun n9 hn9 h90 => by simp only [wJ, hn9, h90, Nat.add_zero, Nat.zero_add] <;> ac_rfl))
  have hP : va_P D vwCl (wJ ([(lo, .inr (0, [.int (nI mc), .ref a1, .int (nI L.length)]))]) (wJ ([(a1, .inl (cy 4, cap + cap / 2, .inr (.inr (.inr (.inr (fun j => L[j]?))))))]) pl)) H := vp_perm hP hp7
  have hD : va_D A0 (wJ ([(lo, .inr (0, [.int (nI mc), .ref a1, .int (nI L.length)]))]) (wJ ([(a1, .inl (cy 4, cap + cap / 2, .inr (.inr (.inr (.inr (fun j => L[j]?))))))]) pl)) := vd_perm hp7 hD
  refine W.eq (g2 := F0 m 10 ls [.ref a1]) rfl ?_
  subst hA0
  refine W.widen (k := 1) (n := 1234) (by omega) (by omega) ?_
  exact W.aret (v := .ref a1) hx hb hr (Or.inr ⟨_, rfl⟩) (Or.inr ⟨_, rfl⟩) (fun t ht hW => ⟨⟨some a1, a1, rfl, ⟨rfl, trivial⟩, (by rw [ht]; exact hP), hD⟩, hS.F ht⟩) hS.2.2 dJx4a65c_grow_d5877_10

set_option maxHeartbeats 4000000 in
set_option maxRecDepth 100000 in
theorem kJx4a65c_grow_d5877_fresh (l : Launch) (D : va_G) (cy : Nat → ClassId) (sz e0 mi : Nat) (lo : Nat) (mc : Nat)  : Met l yJx4a65c_grow_d5877 wsJx4a65c_grow_d5877 ({ frames := 2, cells := 1, slots := 1234, locals := 37 }) (vh_P D cy e0 mi [.ref lo] sz ([(lo, .inr (0, [.int (nI mc), .ref e0, .int (nI 0)]))])) (vg_Qq (S := Nat) D sz ([(lo, .inr (0, [.int (nI mc), .ref e0, .int (nI 0)]))]) (fun r u => r = some u ∧ True) (fun u => wJ ([(lo, .inr (0, [.int (nI mc), .ref u, .int (nI 0)]))]) ([(u, .inl (cy 4, 10, .inr (.inr (.inr (.inr (fun _ => none))))))]))) 1 1234 (va_A ([(lo, .inr (0, [.int (nI mc), .ref e0, .int (nI 0)]))]) sz) := by
  refine Met.ofW (cc := cJx4a65c_grow_d5877) (maxL := 1) (ret := (some (.array (.object "java/lang/Object")))) (by decide) rfl ?_
  intro p e s m args below meth c s₁ BB hml hv
  obtain ⟨rfl, hsz, hP, hE, hD0, hF, hZ⟩ := hv
  have hx := BB.exec
  have hb := BB.bytes
  have hr := BB.returns
  have hts := atoms_spec (ws := wsJx4a65c_grow_d5877) BB.pre
  have hown : s.vm.findClass RJx4a65c = some m.cls := findClass_of_methodNamed BB.named
  have hlocks := BB.notSynchronized
  subst hsz
  have hD := hD0.self (sz := s.heap.size)
  have hA : ∀ q : Nat, s.heap.size ≤ q → (va_A ([(lo, .inr (0, [.int (nI mc), .ref e0, .int (nI 0)]))]) s.heap.size) q := fun q h => Or.inr h
  have hS : va_S (va_A ([(lo, .inr (0, [.int (nI mc), .ref e0, .int (nI 0)]))]) s.heap.size) s.heap s.heap [] := va_S.rf
  obtain ⟨A0, hA0⟩ : ∃ A0 : Nat → Prop, A0 = va_A ([(lo, .inr (0, [.int (nI mc), .ref e0, .int (nI 0)]))]) s.heap.size := ⟨_, rfl⟩
  rw [← hA0]
  rw [← hA0] at hD hA hS hZ
  have hin_RJx4a65c : ∀ w ∈ u_ws RJx4a65c TJx4a65c 3, w ∈ wsJx4a65c_grow_d5877 := by decide +kernel
  have hl := lv_entry ([.ref lo]) (n := 1) (Nat.le_of_ble_eq_true rfl)
  rw [lg_entry_eq]
  generalize (lg_sl ([.ref lo]) ++ List.replicate (1 - (lg_sl ([.ref lo])).length) Slot.unset).toArray = ls at hl ⊢
  have hl : lv_has ls 1 [(0, .ref lo)] := hl
  refine lv_aload_n hx hb dJx4a65c_grow_d5877_0 rfl (lv_at hl 0 rfl) ?_
  refine lv_aload_n hx hb dJx4a65c_grow_d5877_1 rfl (lv_at hl 0 rfl) ?_
  refine va_get (D := D) (ci := 0) (v := .int (nI 0)) (C := RJx4a65c) (T := TJx4a65c) (N := 3) hx hb hts hin_RJx4a65c hown hE.1 hP 0 rfl rfl 2 (by decide) (hts (.fieldLink RJx4a65c 48 "java/util/ArrayList" "size" "I") (by decide +kernel)) (fun _ h9 => h9) rfl dJx4a65c_grow_d5877_2 ?_
  refine lv_iconst (v := 1) hx hb dJx4a65c_grow_d5877_5 (by decide) ?_
  refine lv_iadd hx hb dJx4a65c_grow_d5877_6 ?_
  refine vg_tp (nI (0 + 1)) (nI_add 0 1) ?_
  have hp9 : ([(lo, .inr (0, [.int (nI mc), .ref e0, .int (nI 0)]))] : va_W).Perm (wJ ([(lo, .inr (0, [.int (nI mc), .ref e0, .int (nI 0)]))]) ([] : va_W)) := (vp_pc (fun n9 hn9 h90 => by simp only [wJ, hn9, h90, Nat.add_zero, Nat.zero_add] <;> ac_rfl))
  refine vj_callq (va_runV (As := [.int (nI (0 + 1))]) (rest := []) ⟨hx, hb, hml, hown, hts⟩ (kJx4a65c_grow_92f84_fresh l D cy s.heap.size e0 mi lo mc) (cwV 1 hts gJx4a65c_grow_d5877_Jx4a65c_grow_92f84 rfl rfl rfl (by decide +kernel) ⟨Nat.le_of_ble_eq_true rfl, Nat.le_of_ble_eq_true rfl⟩) (vh_P.preV hE hF hZ hS (vj_free (vd_perm hp9 hD) hS hA) hP 0 rfl rfl (vp_app.mp (vp_perm hP hp9)).1 (vd_app.mp (vd_perm hp9 hD)).1) rfl rfl hl.1 rfl (lv_room (Nat.le_of_ble_eq_true rfl)) dJx4a65c_grow_d5877_7 ⟨Nat.le_of_ble_eq_true rfl, Nat.le_of_ble_eq_true rfl⟩) hP hD hS hA hp9 (fun r a1 H locs ⟨hr, _⟩ hP hD hS => ?_)
  subst hr
  have hp7 : (wJ (wJ ([(lo, .inr (0, [.int (nI mc), .ref a1, .int (nI 0)]))]) ([(a1, .inl (cy 4, 10, .inr (.inr (.inr (.inr (fun _ => none))))))])) ([] : va_W) : va_W).Perm (wJ ([(lo, .inr (0, [.int (nI mc), .ref a1, .int (nI 0)]))]) ([(a1, .inl (cy 4, 10, .inr (.inr (.inr (.inr (fun _ => none))))))])) := (vp_pc (fun n9 hn9 h90 => by simp only [wJ, hn9, h90, Nat.add_zero, Nat.zero_add] <;> ac_rfl))
  have hP : va_P D vwCl (wJ ([(lo, .inr (0, [.int (nI mc), .ref a1, .int (nI 0)]))]) ([(a1, .inl (cy 4, 10, .inr (.inr (.inr (.inr (fun _ => none))))))])) H := vp_perm hP hp7
  have hD : va_D A0 (wJ ([(lo, .inr (0, [.int (nI mc), .ref a1, .int (nI 0)]))]) ([(a1, .inl (cy 4, 10, .inr (.inr (.inr (.inr (fun _ => none))))))])) := vd_perm hp7 hD
  refine W.eq (g2 := F0 m 10 ls [.ref a1]) rfl ?_
  subst hA0
  refine W.widen (k := 1) (n := 1234) (by omega) (by omega) ?_
  exact W.aret (v := .ref a1) hx hb hr (Or.inr ⟨_, rfl⟩) (Or.inr ⟨_, rfl⟩) (fun t ht hW => ⟨⟨some a1, a1, rfl, ⟨rfl, trivial⟩, (by rw [ht]; exact hP), hD⟩, hS.F ht⟩) hS.2.2 dJx4a65c_grow_d5877_10

set_option maxHeartbeats 4000000 in
set_option maxRecDepth 100000 in
theorem kJx4a65c_add_72be8_room (l : Launch) (D : va_G) (cy : Nat → ClassId) (sz e0 mi : Nat) (lo : Nat) (mc : Nat) (ld : Nat) (cap : Nat) (L : List Nat) (pl : va_W) (ci : Nat) (q : vw_C) (y : Nat) (hq : vwCl[ci]? = some q) (hca : Cond.castable q.1 "java/lang/Object" ∈ vg_nwl) (hy : ∃ vs, ((y, .inr (ci, vs)) : Nat × va_E) ∈ pl) (hfu : L.length < cap) (hcm : cap ∈ vl_caps) : Met l yJx4a65c_add_72be8 wsJx4a65c_add_72be8 ({ frames := 0, cells := 1, slots := 1234, locals := 0 }) (vh_P D cy e0 mi [.ref lo, .ref y, .ref ld, .int (nI L.length)] sz (wJ ([(lo, .inr (0, [.int (nI mc), .ref ld, .int (nI L.length)]))]) (wJ ([(ld, .inl (cy 4, cap, .inr (.inr (.inr (.inr (fun j => L[j]?))))))]) pl))) (vg_Qv (S := Nat × Nat) D sz (wJ ([(lo, .inr (0, [.int (nI mc), .ref ld, .int (nI L.length)]))]) (wJ ([(ld, .inl (cy 4, cap, .inr (.inr (.inr (.inr (fun j => L[j]?))))))]) pl)) (fun u => u.2 = cap) (fun u => wJ ([(lo, .inr (0, [.int (nI mc), .ref u.1, .int (nI ((L ++ [y]).length))]))]) (wJ ([(u.1, .inl (cy 4, u.2, .inr (.inr (.inr (.inr (fun j => (L ++ [y])[j]?))))))]) pl))) 1 1234 (va_A (wJ ([(lo, .inr (0, [.int (nI mc), .ref ld, .int (nI L.length)]))]) (wJ ([(ld, .inl (cy 4, cap, .inr (.inr (.inr (.inr (fun j => L[j]?))))))]) pl)) sz) := by
  refine Met.ofW (cc := cJx4a65c_add_72be8) (maxL := 4) (ret := none) (by decide) rfl ?_
  intro p e s m args below meth c s₁ BB hml hv
  obtain ⟨rfl, hsz, hP, hE, hD0, hF, hZ⟩ := hv
  have hx := BB.exec
  have hb := BB.bytes
  have hr := BB.returns
  have hts := atoms_spec (ws := wsJx4a65c_add_72be8) BB.pre
  have hown : s.vm.findClass RJx4a65c = some m.cls := findClass_of_methodNamed BB.named
  have hlocks := BB.notSynchronized
  subst hsz
  have hD := hD0.self (sz := s.heap.size)
  have hA : ∀ q : Nat, s.heap.size ≤ q → (va_A (wJ ([(lo, .inr (0, [.int (nI mc), .ref ld, .int (nI L.length)]))]) (wJ ([(ld, .inl (cy 4, cap, .inr (.inr (.inr (.inr (fun j => L[j]?))))))]) pl)) s.heap.size) q := fun q h => Or.inr h
  have hS : va_S (va_A (wJ ([(lo, .inr (0, [.int (nI mc), .ref ld, .int (nI L.length)]))]) (wJ ([(ld, .inl (cy 4, cap, .inr (.inr (.inr (.inr (fun j => L[j]?))))))]) pl)) s.heap.size) s.heap s.heap [] := va_S.rf
  obtain ⟨A0, hA0⟩ : ∃ A0 : Nat → Prop, A0 = va_A (wJ ([(lo, .inr (0, [.int (nI mc), .ref ld, .int (nI L.length)]))]) (wJ ([(ld, .inl (cy 4, cap, .inr (.inr (.inr (.inr (fun j => L[j]?))))))]) pl)) s.heap.size := ⟨_, rfl⟩
  rw [← hA0]
  rw [← hA0] at hD hA hS hZ
  have hin_RJx4a65c : ∀ w ∈ u_ws RJx4a65c TJx4a65c 3, w ∈ wsJx4a65c_add_72be8 := by decide +kernel
  have hl := lv_entry ([.ref lo, .ref y, .ref ld, .int (nI L.length)]) (n := 4) (Nat.le_of_ble_eq_true rfl)
  rw [lg_entry_eq]
  generalize (lg_sl ([.ref lo, .ref y, .ref ld, .int (nI L.length)]) ++ List.replicate (4 - (lg_sl ([.ref lo, .ref y, .ref ld, .int (nI L.length)])).length) Slot.unset).toArray = ls at hl ⊢
  have hl : lv_has ls 4 [(0, .ref lo), (1, .ref y), (2, .ref ld), (3, .int (nI L.length))] := hl
  have hc10 := vl_cap10 hcm
  refine lv_iload_n hx hb dJx4a65c_add_72be8_0 rfl (lv_at hl 3 rfl) ?_
  refine lv_aload_n hx hb dJx4a65c_add_72be8_1 rfl (lv_at hl 2 rfl) ?_
  refine va_alen hx hb hE.1 hP 1 4 rfl rfl (v := (nI cap)) rfl dJx4a65c_add_72be8_2 ?_
  refine lv_icmp_ne (tgt := 11) hx hb dJx4a65c_add_72be8_3 (by decide) (fun _ => ?_) (fun c9 => absurd c9 (vl_nne (by omega) (by omega) (by omega)))
  refine lv_aload_n hx hb dJx4a65c_add_72be8_11 rfl (lv_at hl 2 rfl) ?_
  refine lv_iload_n hx hb dJx4a65c_add_72be8_12 rfl (lv_at hl 3 rfl) ?_
  refine lv_aload_n hx hb dJx4a65c_add_72be8_13 rfl (lv_at hl 1 rfl) ?_
  obtain ⟨vs9, hvs9⟩ := hy
  obtain ⟨k9, hk9⟩ := List.getElem?_of_mem (show ((y, .inr (ci, vs9)) : Nat × va_E) ∈ (wJ ([(lo, .inr (0, [.int (nI mc), .ref ld, .int (nI L.length)]))]) (wJ ([(ld, .inl (cy 4, cap, .inr (.inr (.inr (.inr (fun j => L[j]?))))))]) pl) : va_W) from List.mem_append_right _ (List.mem_append_right _ (hvs9)))
  refine va_astqO hx hb hE.1 hP hD hS 1 4 k9 ci rfl rfl (hE.2 _ hca) hk9 hq (vp_in_nI (by omega) (by omega)) dJx4a65c_add_72be8_14 (fun H locs hP hD hS => ?_)
  rw [nI_clamp (n := L.length) (by omega)] at hP hD
  have hP : va_P D vwCl (wJ ([(lo, .inr (0, [.int (nI mc), .ref ld, .int (nI L.length)]))]) (wJ ([(ld, .inl (cy 4, cap, .inr (.inr (.inr (.inr (va_up (fun j => L[j]?) L.length (some y)))))))]) pl)) H := hP
  have hD : va_D A0 (wJ ([(lo, .inr (0, [.int (nI mc), .ref ld, .int (nI L.length)]))]) (wJ ([(ld, .inl (cy 4, cap, .inr (.inr (.inr (.inr (va_up (fun j => L[j]?) L.length (some y)))))))]) pl)) := hD
  refine lv_aload_n hx hb dJx4a65c_add_72be8_15 rfl (lv_at hl 0 rfl) ?_
  refine lv_iload_n hx hb dJx4a65c_add_72be8_16 rfl (lv_at hl 3 rfl) ?_
  refine lv_iconst (v := 1) hx hb dJx4a65c_add_72be8_17 (by decide) ?_
  refine lv_iadd hx hb dJx4a65c_add_72be8_18 ?_
  refine vg_tp (nI (L.length + 1)) (nI_add L.length 1) ?_
  refine va_put (D := (D)) (ci := 0) (v := .int (nI (L.length + 1))) (ty := .int) (C := RJx4a65c) (T := TJx4a65c) (N := 3) hx hb hts hin_RJx4a65c tyJx4a65c tyJx4a65c_ok nmJx4a65c hown hE.1 hP hD hS 0 rfl rfl 2 (by decide) (hts (.fieldLink RJx4a65c 48 "java/util/ArrayList" "size" "I") (by decide +kernel)) (fun _ h9 => h9) rfl (by decide +kernel) rfl rfl (Nat.le_of_ble_eq_true rfl) dJx4a65c_add_72be8_19 (fun H locs hP hD hS => ?_)
  have hP : va_P D vwCl (wJ ([(lo, .inr (0, [.int (nI mc), .ref ld, .int (nI (L.length + 1))]))]) (wJ ([(ld, .inl (cy 4, cap, .inr (.inr (.inr (.inr (va_up (fun j => L[j]?) L.length (some y)))))))]) pl)) H := hP
  have hD : va_D A0 (wJ ([(lo, .inr (0, [.int (nI mc), .ref ld, .int (nI (L.length + 1))]))]) (wJ ([(ld, .inl (cy 4, cap, .inr (.inr (.inr (.inr (va_up (fun j => L[j]?) L.length (some y)))))))]) pl)) := hD
  have eL : (L ++ [y]).length = L.length + 1 := by simp
  rw [vl_app L y, ← eL] at hP hD
  have hP : va_P D vwCl (wJ ([(lo, .inr (0, [.int (nI mc), .ref ld, .int (nI ((L ++ [y]).length))]))]) (wJ ([(ld, .inl (cy 4, cap, .inr (.inr (.inr (.inr (fun j => (L ++ [y])[j]?))))))]) pl)) H := hP
  have hD : va_D A0 (wJ ([(lo, .inr (0, [.int (nI mc), .ref ld, .int (nI ((L ++ [y]).length))]))]) (wJ ([(ld, .inl (cy 4, cap, .inr (.inr (.inr (.inr (fun j => (L ++ [y])[j]?))))))]) pl)) := hD
  subst hA0
  refine W.widen (k := 1) (n := 1234) (by omega) (by omega) ?_
  exact W.vret hx hb hr (fun t ht hW => ⟨⟨(ld, cap), rfl, rfl, (by rw [ht]; exact hP), hD⟩, hS.F ht⟩) hS.2.2 dJx4a65c_add_72be8_22

set_option maxHeartbeats 4000000 in
set_option maxRecDepth 100000 in
theorem kJx4a65c_add_72be8_full (l : Launch) (D : va_G) (cy : Nat → ClassId) (sz e0 mi : Nat) (lo : Nat) (mc : Nat) (ld : Nat) (cap : Nat) (L : List Nat) (pl : va_W) (ci : Nat) (q : vw_C) (y : Nat) (hq : vwCl[ci]? = some q) (hca : Cond.castable q.1 "java/lang/Object" ∈ vg_nwl) (hy : ∃ vs, ((y, .inr (ci, vs)) : Nat × va_E) ∈ pl) (hfu : L.length = cap) (hcm : cap ∈ vl_caps) (hc2 : cap < 1234) (hel : vl_el L pl ci) : Met l yJx4a65c_add_72be8 wsJx4a65c_add_72be8 ({ frames := 5, cells := 1, slots := 1234, locals := 154 }) (vh_P D cy e0 mi [.ref lo, .ref y, .ref ld, .int (nI L.length)] sz (wJ ([(lo, .inr (0, [.int (nI mc), .ref ld, .int (nI L.length)]))]) (wJ ([(ld, .inl (cy 4, cap, .inr (.inr (.inr (.inr (fun j => L[j]?))))))]) pl))) (vg_Qv (S := Nat × Nat) D sz (wJ ([(lo, .inr (0, [.int (nI mc), .ref ld, .int (nI L.length)]))]) (wJ ([(ld, .inl (cy 4, cap, .inr (.inr (.inr (.inr (fun j => L[j]?))))))]) pl)) (fun u => u.2 = cap + cap / 2) (fun u => wJ ([(lo, .inr (0, [.int (nI mc), .ref u.1, .int (nI ((L ++ [y]).length))]))]) (wJ ([(u.1, .inl (cy 4, u.2, .inr (.inr (.inr (.inr (fun j => (L ++ [y])[j]?))))))]) pl))) 1 1234 (va_A (wJ ([(lo, .inr (0, [.int (nI mc), .ref ld, .int (nI L.length)]))]) (wJ ([(ld, .inl (cy 4, cap, .inr (.inr (.inr (.inr (fun j => L[j]?))))))]) pl)) sz) := by
  refine Met.ofW (cc := cJx4a65c_add_72be8) (maxL := 4) (ret := none) (by decide) rfl ?_
  intro p e s m args below meth c s₁ BB hml hv
  obtain ⟨rfl, hsz, hP, hE, hD0, hF, hZ⟩ := hv
  have hx := BB.exec
  have hb := BB.bytes
  have hr := BB.returns
  have hts := atoms_spec (ws := wsJx4a65c_add_72be8) BB.pre
  have hown : s.vm.findClass RJx4a65c = some m.cls := findClass_of_methodNamed BB.named
  have hlocks := BB.notSynchronized
  subst hsz
  have hD := hD0.self (sz := s.heap.size)
  have hA : ∀ q : Nat, s.heap.size ≤ q → (va_A (wJ ([(lo, .inr (0, [.int (nI mc), .ref ld, .int (nI L.length)]))]) (wJ ([(ld, .inl (cy 4, cap, .inr (.inr (.inr (.inr (fun j => L[j]?))))))]) pl)) s.heap.size) q := fun q h => Or.inr h
  have hS : va_S (va_A (wJ ([(lo, .inr (0, [.int (nI mc), .ref ld, .int (nI L.length)]))]) (wJ ([(ld, .inl (cy 4, cap, .inr (.inr (.inr (.inr (fun j => L[j]?))))))]) pl)) s.heap.size) s.heap s.heap [] := va_S.rf
  obtain ⟨A0, hA0⟩ : ∃ A0 : Nat → Prop, A0 = va_A (wJ ([(lo, .inr (0, [.int (nI mc), .ref ld, .int (nI L.length)]))]) (wJ ([(ld, .inl (cy 4, cap, .inr (.inr (.inr (.inr (fun j => L[j]?))))))]) pl)) s.heap.size := ⟨_, rfl⟩
  rw [← hA0]
  rw [← hA0] at hD hA hS hZ
  have hin_RJx4a65c : ∀ w ∈ u_ws RJx4a65c TJx4a65c 3, w ∈ wsJx4a65c_add_72be8 := by decide +kernel
  have hl := lv_entry ([.ref lo, .ref y, .ref ld, .int (nI L.length)]) (n := 4) (Nat.le_of_ble_eq_true rfl)
  rw [lg_entry_eq]
  generalize (lg_sl ([.ref lo, .ref y, .ref ld, .int (nI L.length)]) ++ List.replicate (4 - (lg_sl ([.ref lo, .ref y, .ref ld, .int (nI L.length)])).length) Slot.unset).toArray = ls at hl ⊢
  have hl : lv_has ls 4 [(0, .ref lo), (1, .ref y), (2, .ref ld), (3, .int (nI L.length))] := hl
  have hc10 := vl_cap10 hcm
  refine lv_iload_n hx hb dJx4a65c_add_72be8_0 rfl (lv_at hl 3 rfl) ?_
  refine lv_aload_n hx hb dJx4a65c_add_72be8_1 rfl (lv_at hl 2 rfl) ?_
  refine va_alen hx hb hE.1 hP 1 4 rfl rfl (v := (nI cap)) rfl dJx4a65c_add_72be8_2 ?_
  refine lv_icmp_ne (tgt := 11) hx hb dJx4a65c_add_72be8_3 (by decide) (fun c9 => absurd c9 ((fun h9 => h9 (congrArg nI hfu)))) (fun _ => ?_)
  refine lv_aload_n hx hb dJx4a65c_add_72be8_6 rfl (lv_at hl 0 rfl) ?_
  have hp9 : (wJ ([(lo, .inr (0, [.int (nI mc), .ref ld, .int (nI L.length)]))]) (wJ ([(ld, .inl (cy 4, cap, .inr (.inr (.inr (.inr (fun j => L[j]?))))))]) pl) : va_W).Perm (wJ (wJ ([(lo, .inr (0, [.int (nI mc), .ref ld, .int (nI L.length)]))]) (wJ ([(ld, .inl (cy 4, cap, .inr (.inr (.inr (.inr (fun j => L[j]?))))))]) pl)) ([] : va_W)) := (vp_pc (fun n9 hn9 h90 => by simp only [wJ, hn9, h90, Nat.add_zero, Nat.zero_add] <;> ac_rfl))
  refine vj_callq (va_runV (As := []) (rest := []) ⟨hx, hb, hml, hown, hts⟩ (kJx4a65c_grow_d5877_full l D cy s.heap.size e0 mi lo mc ld cap L pl ci q hq hca hfu hcm hc2 hel) (cwV 0 hts gJx4a65c_add_72be8_Jx4a65c_grow_d5877 rfl rfl rfl (by decide +kernel) ⟨Nat.le_of_ble_eq_true rfl, Nat.le_of_ble_eq_true rfl⟩) (vh_P.preV hE hF hZ hS (vj_free (vd_perm hp9 hD) hS hA) hP 0 rfl rfl (vp_app.mp (vp_perm hP hp9)).1 (vd_app.mp (vd_perm hp9 hD)).1) rfl rfl hl.1 rfl (lv_room (Nat.le_of_ble_eq_true rfl)) dJx4a65c_add_72be8_7 ⟨Nat.le_of_ble_eq_true rfl, Nat.le_of_ble_eq_true rfl⟩) hP hD hS hA hp9 (fun r a2 H locs ⟨hr, _⟩ hP hD hS => ?_)
  subst hr
  have hp7 : (wJ (wJ ([(lo, .inr (0, [.int (nI mc), .ref a2, .int (nI L.length)]))]) (wJ ([(a2, .inl (cy 4, cap + cap / 2, .inr (.inr (.inr (.inr (fun j => L[j]?))))))]) pl)) ([] : va_W) : va_W).Perm (wJ ([(lo, .inr (0, [.int (nI mc), .ref a2, .int (nI L.length)]))]) (wJ ([(a2, .inl (cy 4, cap + cap / 2, .inr (.inr (.inr (.inr (fun j => L[j]?))))))]) pl)) := (vp_pc (fun n9 hn9 h90 => by simp only [wJ, hn9, h90, Nat.add_zero, Nat.zero_add] <;> ac_rfl))
  have hP : va_P D vwCl (wJ ([(lo, .inr (0, [.int (nI mc), .ref a2, .int (nI L.length)]))]) (wJ ([(a2, .inl (cy 4, cap + cap / 2, .inr (.inr (.inr (.inr (fun j => L[j]?))))))]) pl)) H := vp_perm hP hp7
  have hD : va_D A0 (wJ ([(lo, .inr (0, [.int (nI mc), .ref a2, .int (nI L.length)]))]) (wJ ([(a2, .inl (cy 4, cap + cap / 2, .inr (.inr (.inr (.inr (fun j => L[j]?))))))]) pl)) := vd_perm hp7 hD
  refine W.eq (g2 := F0 m 10 ls [.ref a2]) rfl ?_
  refine lv_astore_n (lv' := [(2, .ref a2), (0, .ref lo), (1, .ref y), (3, .int (nI L.length))]) hx hb dJx4a65c_add_72be8_10 rfl hl (by decide) rfl (fun ls hl => ?_)
  have hl : lv_has ls 4 [(0, .ref lo), (1, .ref y), (2, .ref a2), (3, .int (nI L.length))] := lv_sub hl [1, 2, 0, 3] rfl
  refine lv_aload_n hx hb dJx4a65c_add_72be8_11 rfl (lv_at hl 2 rfl) ?_
  refine lv_iload_n hx hb dJx4a65c_add_72be8_12 rfl (lv_at hl 3 rfl) ?_
  refine lv_aload_n hx hb dJx4a65c_add_72be8_13 rfl (lv_at hl 1 rfl) ?_
  obtain ⟨vs9, hvs9⟩ := hy
  obtain ⟨k9, hk9⟩ := List.getElem?_of_mem (show ((y, .inr (ci, vs9)) : Nat × va_E) ∈ (wJ ([(lo, .inr (0, [.int (nI mc), .ref a2, .int (nI L.length)]))]) (wJ ([(a2, .inl (cy 4, cap + cap / 2, .inr (.inr (.inr (.inr (fun j => L[j]?))))))]) pl) : va_W) from List.mem_append_right _ (List.mem_append_right _ (hvs9)))
  refine va_astqO hx hb hE.1 hP hD hS 1 4 k9 ci rfl rfl (hE.2 _ hca) hk9 hq (vp_in_nI (by omega) (by omega)) dJx4a65c_add_72be8_14 (fun H locs hP hD hS => ?_)
  rw [nI_clamp (n := L.length) (by omega)] at hP hD
  have hP : va_P D vwCl (wJ ([(lo, .inr (0, [.int (nI mc), .ref a2, .int (nI L.length)]))]) (wJ ([(a2, .inl (cy 4, cap + cap / 2, .inr (.inr (.inr (.inr (va_up (fun j => L[j]?) L.length (some y)))))))]) pl)) H := hP
  have hD : va_D A0 (wJ ([(lo, .inr (0, [.int (nI mc), .ref a2, .int (nI L.length)]))]) (wJ ([(a2, .inl (cy 4, cap + cap / 2, .inr (.inr (.inr (.inr (va_up (fun j => L[j]?) L.length (some y)))))))]) pl)) := hD
  refine lv_aload_n hx hb dJx4a65c_add_72be8_15 rfl (lv_at hl 0 rfl) ?_
  refine lv_iload_n hx hb dJx4a65c_add_72be8_16 rfl (lv_at hl 3 rfl) ?_
  refine lv_iconst (v := 1) hx hb dJx4a65c_add_72be8_17 (by decide) ?_
  refine lv_iadd hx hb dJx4a65c_add_72be8_18 ?_
  refine vg_tp (nI (L.length + 1)) (nI_add L.length 1) ?_
  refine va_put (D := (D)) (ci := 0) (v := .int (nI (L.length + 1))) (ty := .int) (C := RJx4a65c) (T := TJx4a65c) (N := 3) hx hb hts hin_RJx4a65c tyJx4a65c tyJx4a65c_ok nmJx4a65c hown hE.1 hP hD hS 0 rfl rfl 2 (by decide) (hts (.fieldLink RJx4a65c 48 "java/util/ArrayList" "size" "I") (by decide +kernel)) (fun _ h9 => h9) rfl (by decide +kernel) rfl rfl (Nat.le_of_ble_eq_true rfl) dJx4a65c_add_72be8_19 (fun H locs hP hD hS => ?_)
  have hP : va_P D vwCl (wJ ([(lo, .inr (0, [.int (nI mc), .ref a2, .int (nI (L.length + 1))]))]) (wJ ([(a2, .inl (cy 4, cap + cap / 2, .inr (.inr (.inr (.inr (va_up (fun j => L[j]?) L.length (some y)))))))]) pl)) H := hP
  have hD : va_D A0 (wJ ([(lo, .inr (0, [.int (nI mc), .ref a2, .int (nI (L.length + 1))]))]) (wJ ([(a2, .inl (cy 4, cap + cap / 2, .inr (.inr (.inr (.inr (va_up (fun j => L[j]?) L.length (some y)))))))]) pl)) := hD
  have eL : (L ++ [y]).length = L.length + 1 := by simp
  rw [vl_app L y, ← eL] at hP hD
  have hP : va_P D vwCl (wJ ([(lo, .inr (0, [.int (nI mc), .ref a2, .int (nI ((L ++ [y]).length))]))]) (wJ ([(a2, .inl (cy 4, cap + cap / 2, .inr (.inr (.inr (.inr (fun j => (L ++ [y])[j]?))))))]) pl)) H := hP
  have hD : va_D A0 (wJ ([(lo, .inr (0, [.int (nI mc), .ref a2, .int (nI ((L ++ [y]).length))]))]) (wJ ([(a2, .inl (cy 4, cap + cap / 2, .inr (.inr (.inr (.inr (fun j => (L ++ [y])[j]?))))))]) pl)) := hD
  subst hA0
  refine W.widen (k := 1) (n := 1234) (by omega) (by omega) ?_
  exact W.vret hx hb hr (fun t ht hW => ⟨⟨(a2, cap + cap / 2), rfl, rfl, (by rw [ht]; exact hP), hD⟩, hS.F ht⟩) hS.2.2 dJx4a65c_add_72be8_22

set_option maxHeartbeats 4000000 in
set_option maxRecDepth 100000 in
theorem kJx4a65c_add_72be8_fresh (l : Launch) (D : va_G) (cy : Nat → ClassId) (sz e0 mi : Nat) (lo : Nat) (mc : Nat) (pl : va_W) (ci : Nat) (q : vw_C) (y : Nat) (hq : vwCl[ci]? = some q) (hca : Cond.castable q.1 "java/lang/Object" ∈ vg_nwl) (hy : ∃ vs, ((y, .inr (ci, vs)) : Nat × va_E) ∈ pl) : Met l yJx4a65c_add_72be8 wsJx4a65c_add_72be8 ({ frames := 3, cells := 1, slots := 1234, locals := 57 }) (vh_P D cy e0 mi [.ref lo, .ref y, .ref e0, .int (nI 0)] sz (wJ ([(lo, .inr (0, [.int (nI mc), .ref e0, .int (nI 0)]))]) pl)) (vg_Qv (S := Nat × Nat) D sz (wJ ([(lo, .inr (0, [.int (nI mc), .ref e0, .int (nI 0)]))]) pl) (fun u => u.2 = 10) (fun u => wJ ([(lo, .inr (0, [.int (nI mc), .ref u.1, .int (nI (([y] : List Nat).length))]))]) (wJ ([(u.1, .inl (cy 4, u.2, .inr (.inr (.inr (.inr (fun j => ([y] : List Nat)[j]?))))))]) pl))) 1 1234 (va_A (wJ ([(lo, .inr (0, [.int (nI mc), .ref e0, .int (nI 0)]))]) pl) sz) := by
  refine Met.ofW (cc := cJx4a65c_add_72be8) (maxL := 4) (ret := none) (by decide) rfl ?_
  intro p e s m args below meth c s₁ BB hml hv
  obtain ⟨rfl, hsz, hP, hE, hD0, hF, hZ⟩ := hv
  have hx := BB.exec
  have hb := BB.bytes
  have hr := BB.returns
  have hts := atoms_spec (ws := wsJx4a65c_add_72be8) BB.pre
  have hown : s.vm.findClass RJx4a65c = some m.cls := findClass_of_methodNamed BB.named
  have hlocks := BB.notSynchronized
  subst hsz
  have hD := hD0.self (sz := s.heap.size)
  have hA : ∀ q : Nat, s.heap.size ≤ q → (va_A (wJ ([(lo, .inr (0, [.int (nI mc), .ref e0, .int (nI 0)]))]) pl) s.heap.size) q := fun q h => Or.inr h
  have hS : va_S (va_A (wJ ([(lo, .inr (0, [.int (nI mc), .ref e0, .int (nI 0)]))]) pl) s.heap.size) s.heap s.heap [] := va_S.rf
  obtain ⟨A0, hA0⟩ : ∃ A0 : Nat → Prop, A0 = va_A (wJ ([(lo, .inr (0, [.int (nI mc), .ref e0, .int (nI 0)]))]) pl) s.heap.size := ⟨_, rfl⟩
  rw [← hA0]
  rw [← hA0] at hD hA hS hZ
  have hin_RJx4a65c : ∀ w ∈ u_ws RJx4a65c TJx4a65c 3, w ∈ wsJx4a65c_add_72be8 := by decide +kernel
  have hl := lv_entry ([.ref lo, .ref y, .ref e0, .int (nI 0)]) (n := 4) (Nat.le_of_ble_eq_true rfl)
  rw [lg_entry_eq]
  generalize (lg_sl ([.ref lo, .ref y, .ref e0, .int (nI 0)]) ++ List.replicate (4 - (lg_sl ([.ref lo, .ref y, .ref e0, .int (nI 0)])).length) Slot.unset).toArray = ls at hl ⊢
  have hl : lv_has ls 4 [(0, .ref lo), (1, .ref y), (2, .ref e0), (3, .int (nI 0))] := hl
  refine lv_iload_n hx hb dJx4a65c_add_72be8_0 rfl (lv_at hl 3 rfl) ?_
  refine lv_aload_n hx hb dJx4a65c_add_72be8_1 rfl (lv_at hl 2 rfl) ?_
  refine vh_len0 hx hb hE hS hZ dJx4a65c_add_72be8_2 ?_
  refine lv_icmp_ne (tgt := 11) hx hb dJx4a65c_add_72be8_3 (by decide) (fun c9 => False.elim (by revert c9; decide)) (fun _ => ?_)
  refine lv_aload_n hx hb dJx4a65c_add_72be8_6 rfl (lv_at hl 0 rfl) ?_
  have hp9 : (wJ ([(lo, .inr (0, [.int (nI mc), .ref e0, .int (nI 0)]))]) pl : va_W).Perm (wJ ([(lo, .inr (0, [.int (nI mc), .ref e0, .int (nI 0)]))]) pl) := (List.Perm.refl _)
  refine vj_callq (va_runV (As := []) (rest := []) ⟨hx, hb, hml, hown, hts⟩ (kJx4a65c_grow_d5877_fresh l D cy s.heap.size e0 mi lo mc) (cwV 0 hts gJx4a65c_add_72be8_Jx4a65c_grow_d5877 rfl rfl rfl (by decide +kernel) ⟨Nat.le_of_ble_eq_true rfl, Nat.le_of_ble_eq_true rfl⟩) (vh_P.preV hE hF hZ hS (vj_free (vd_perm hp9 hD) hS hA) hP 0 rfl rfl (vp_app.mp (vp_perm hP hp9)).1 (vd_app.mp (vd_perm hp9 hD)).1) rfl rfl hl.1 rfl (lv_room (Nat.le_of_ble_eq_true rfl)) dJx4a65c_add_72be8_7 ⟨Nat.le_of_ble_eq_true rfl, Nat.le_of_ble_eq_true rfl⟩) hP hD hS hA hp9 (fun r a2 H locs ⟨hr, _⟩ hP hD hS => ?_)
  subst hr
  have hp7 : (wJ (wJ ([(lo, .inr (0, [.int (nI mc), .ref a2, .int (nI 0)]))]) ([(a2, .inl (cy 4, 10, .inr (.inr (.inr (.inr (fun _ => none))))))])) pl : va_W).Perm (wJ ([(lo, .inr (0, [.int (nI mc), .ref a2, .int (nI 0)]))]) (wJ ([(a2, .inl (cy 4, 10, .inr (.inr (.inr (.inr (fun _ => none))))))]) pl)) := (vp_pc (fun n9 hn9 h90 => by simp only [wJ, hn9, h90, Nat.add_zero, Nat.zero_add] <;> ac_rfl))
  have hP : va_P D vwCl (wJ ([(lo, .inr (0, [.int (nI mc), .ref a2, .int (nI 0)]))]) (wJ ([(a2, .inl (cy 4, 10, .inr (.inr (.inr (.inr (fun _ => none))))))]) pl)) H := vp_perm hP hp7
  have hD : va_D A0 (wJ ([(lo, .inr (0, [.int (nI mc), .ref a2, .int (nI 0)]))]) (wJ ([(a2, .inl (cy 4, 10, .inr (.inr (.inr (.inr (fun _ => none))))))]) pl)) := vd_perm hp7 hD
  refine W.eq (g2 := F0 m 10 ls [.ref a2]) rfl ?_
  refine lv_astore_n (lv' := [(2, .ref a2), (0, .ref lo), (1, .ref y), (3, .int (nI 0))]) hx hb dJx4a65c_add_72be8_10 rfl hl (by decide) rfl (fun ls hl => ?_)
  have hl : lv_has ls 4 [(0, .ref lo), (1, .ref y), (2, .ref a2), (3, .int (nI 0))] := lv_sub hl [1, 2, 0, 3] rfl
  refine lv_aload_n hx hb dJx4a65c_add_72be8_11 rfl (lv_at hl 2 rfl) ?_
  refine lv_iload_n hx hb dJx4a65c_add_72be8_12 rfl (lv_at hl 3 rfl) ?_
  refine lv_aload_n hx hb dJx4a65c_add_72be8_13 rfl (lv_at hl 1 rfl) ?_
  obtain ⟨vs9, hvs9⟩ := hy
  obtain ⟨k9, hk9⟩ := List.getElem?_of_mem (show ((y, .inr (ci, vs9)) : Nat × va_E) ∈ (wJ ([(lo, .inr (0, [.int (nI mc), .ref a2, .int (nI 0)]))]) (wJ ([(a2, .inl (cy 4, 10, .inr (.inr (.inr (.inr (fun _ => none))))))]) pl) : va_W) from List.mem_append_right _ (List.mem_append_right _ (hvs9)))
  refine va_astqO hx hb hE.1 hP hD hS 1 4 k9 ci rfl rfl (hE.2 _ hca) hk9 hq (vp_in_nI (by omega) (by decide)) dJx4a65c_add_72be8_14 (fun H locs hP hD hS => ?_)
  rw [nI_clamp (n := 0) (by omega)] at hP hD
  have hP : va_P D vwCl (wJ ([(lo, .inr (0, [.int (nI mc), .ref a2, .int (nI 0)]))]) (wJ ([(a2, .inl (cy 4, 10, .inr (.inr (.inr (.inr (va_up (fun _ => none) 0 (some y)))))))]) pl)) H := hP
  have hD : va_D A0 (wJ ([(lo, .inr (0, [.int (nI mc), .ref a2, .int (nI 0)]))]) (wJ ([(a2, .inl (cy 4, 10, .inr (.inr (.inr (.inr (va_up (fun _ => none) 0 (some y)))))))]) pl)) := hD
  refine lv_aload_n hx hb dJx4a65c_add_72be8_15 rfl (lv_at hl 0 rfl) ?_
  refine lv_iload_n hx hb dJx4a65c_add_72be8_16 rfl (lv_at hl 3 rfl) ?_
  refine lv_iconst (v := 1) hx hb dJx4a65c_add_72be8_17 (by decide) ?_
  refine lv_iadd hx hb dJx4a65c_add_72be8_18 ?_
  refine vg_tp (nI (0 + 1)) (nI_add 0 1) ?_
  refine va_put (D := (D)) (ci := 0) (v := .int (nI (0 + 1))) (ty := .int) (C := RJx4a65c) (T := TJx4a65c) (N := 3) hx hb hts hin_RJx4a65c tyJx4a65c tyJx4a65c_ok nmJx4a65c hown hE.1 hP hD hS 0 rfl rfl 2 (by decide) (hts (.fieldLink RJx4a65c 48 "java/util/ArrayList" "size" "I") (by decide +kernel)) (fun _ h9 => h9) rfl (by decide +kernel) rfl rfl (Nat.le_of_ble_eq_true rfl) dJx4a65c_add_72be8_19 (fun H locs hP hD hS => ?_)
  have hP : va_P D vwCl (wJ ([(lo, .inr (0, [.int (nI mc), .ref a2, .int (nI (0 + 1))]))]) (wJ ([(a2, .inl (cy 4, 10, .inr (.inr (.inr (.inr (va_up (fun _ => none) 0 (some y)))))))]) pl)) H := hP
  have hD : va_D A0 (wJ ([(lo, .inr (0, [.int (nI mc), .ref a2, .int (nI (0 + 1))]))]) (wJ ([(a2, .inl (cy 4, 10, .inr (.inr (.inr (.inr (va_up (fun _ => none) 0 (some y)))))))]) pl)) := hD
  have eR : va_up (fun _ => none) 0 (some y) = (fun j => ([y] : List Nat)[j]?) := vl_app [] y
  rw [eR] at hP hD
  have hP : va_P D vwCl (wJ ([(lo, .inr (0, [.int (nI mc), .ref a2, .int (nI (([y] : List Nat).length))]))]) (wJ ([(a2, .inl (cy 4, 10, .inr (.inr (.inr (.inr (fun j => ([y] : List Nat)[j]?))))))]) pl)) H := hP
  have hD : va_D A0 (wJ ([(lo, .inr (0, [.int (nI mc), .ref a2, .int (nI (([y] : List Nat).length))]))]) (wJ ([(a2, .inl (cy 4, 10, .inr (.inr (.inr (.inr (fun j => ([y] : List Nat)[j]?))))))]) pl)) := hD
  subst hA0
  refine W.widen (k := 1) (n := 1234) (by omega) (by omega) ?_
  exact W.vret hx hb hr (fun t ht hW => ⟨⟨(a2, 10), rfl, rfl, (by rw [ht]; exact hP), hD⟩, hS.F ht⟩) hS.2.2 dJx4a65c_add_72be8_22

set_option maxHeartbeats 4000000 in
set_option maxRecDepth 100000 in
theorem kJx4a65c_add_9ea2d_room (l : Launch) (D : va_G) (cy : Nat → ClassId) (sz e0 mi : Nat) (lo : Nat) (mc : Nat) (ld : Nat) (cap : Nat) (L : List Nat) (pl : va_W) (ci : Nat) (q : vw_C) (y : Nat) (hq : vwCl[ci]? = some q) (hca : Cond.castable q.1 "java/lang/Object" ∈ vg_nwl) (hy : ∃ vs, ((y, .inr (ci, vs)) : Nat × va_E) ∈ pl) (hfu : L.length < cap) (hcm : cap ∈ vl_caps) (hne : L ≠ []) : Met l yJx4a65c_add_9ea2d wsJx4a65c_add_9ea2d ({ frames := 6, cells := 1, slots := 1234, locals := 177 }) (vh_P D cy e0 mi [.ref lo, .ref y] sz (wJ ([(lo, .inr (0, [.int (nI mc), .ref ld, .int (nI L.length)]))]) (wJ (La cy ld cap L) pl))) (vg_Qi (S := Nat × Nat) D sz (wJ ([(lo, .inr (0, [.int (nI mc), .ref ld, .int (nI L.length)]))]) (wJ (La cy ld cap L) pl)) (fun r u => r = (1 : Int32) ∧ vl_ok e0 u.1 u.2 (L ++ [y])) (fun u => wJ ([(lo, .inr (0, [.int (nI (mc + 1)), .ref u.1, .int (nI ((L ++ [y]).length))]))]) (wJ (La cy u.1 u.2 (L ++ [y])) pl))) 1 1234 (va_A (wJ ([(lo, .inr (0, [.int (nI mc), .ref ld, .int (nI L.length)]))]) (wJ (La cy ld cap L) pl)) sz) := by
  refine Met.ofW (cc := cJx4a65c_add_9ea2d) (maxL := 2) (ret := (some .boolean)) (by decide) rfl ?_
  intro p e s m args below meth c s₁ BB hml hv
  obtain ⟨rfl, hsz, hP, hE, hD0, hF, hZ⟩ := hv
  have hx := BB.exec
  have hb := BB.bytes
  have hr := BB.returns
  have hts := atoms_spec (ws := wsJx4a65c_add_9ea2d) BB.pre
  have hown : s.vm.findClass RJx4a65c = some m.cls := findClass_of_methodNamed BB.named
  have hlocks := BB.notSynchronized
  subst hsz
  have hD := hD0.self (sz := s.heap.size)
  have hA : ∀ q : Nat, s.heap.size ≤ q → (va_A (wJ ([(lo, .inr (0, [.int (nI mc), .ref ld, .int (nI L.length)]))]) (wJ (La cy ld cap L) pl)) s.heap.size) q := fun q h => Or.inr h
  have hS : va_S (va_A (wJ ([(lo, .inr (0, [.int (nI mc), .ref ld, .int (nI L.length)]))]) (wJ (La cy ld cap L) pl)) s.heap.size) s.heap s.heap [] := va_S.rf
  obtain ⟨A0, hA0⟩ : ∃ A0 : Nat → Prop, A0 = va_A (wJ ([(lo, .inr (0, [.int (nI mc), .ref ld, .int (nI L.length)]))]) (wJ (La cy ld cap L) pl)) s.heap.size := ⟨_, rfl⟩
  rw [← hA0]
  rw [← hA0] at hD hA hS hZ
  have hin_RJx4a65c : ∀ w ∈ u_ws RJx4a65c TJx4a65c 3, w ∈ wsJx4a65c_add_9ea2d := by decide +kernel
  have hl := lv_entry ([.ref lo, .ref y]) (n := 2) (Nat.le_of_ble_eq_true rfl)
  rw [lg_entry_eq]
  generalize (lg_sl ([.ref lo, .ref y]) ++ List.replicate (2 - (lg_sl ([.ref lo, .ref y])).length) Slot.unset).toArray = ls at hl ⊢
  have hl : lv_has ls 2 [(0, .ref lo), (1, .ref y)] := hl
  have hc10 := vl_cap10 hcm
  have hp7 : (wJ ([(lo, .inr (0, [.int (nI mc), .ref ld, .int (nI L.length)]))]) (wJ (La cy ld cap L) pl) : va_W).Perm (wJ ([(ld, .inl (cy 4, cap, .inr (.inr (.inr (.inr (fun j => L[j]?))))))]) (wJ ([(lo, .inr (0, [.int (nI mc), .ref ld, .int (nI L.length)]))]) pl)) := vp_swap (u := La cy ld cap L) (u2 := [(ld, .inl (cy 4, cap, .inr (.inr (.inr (.inr (fun j => L[j]?))))))]) (r := wJ ([(lo, .inr (0, [.int (nI mc), .ref ld, .int (nI L.length)]))]) pl) (vp_pc (fun n9 hn9 h90 => by simp only [wJ, hn9, h90, Nat.add_zero, Nat.zero_add] <;> ac_rfl)) (List.Perm.of_eq (La_ne cy ld cap hne)) (List.Perm.refl _)
  have hP : va_P D vwCl (wJ ([(ld, .inl (cy 4, cap, .inr (.inr (.inr (.inr (fun j => L[j]?))))))]) (wJ ([(lo, .inr (0, [.int (nI mc), .ref ld, .int (nI L.length)]))]) pl)) s.heap := vp_perm hP hp7
  have hD : va_D A0 (wJ ([(ld, .inl (cy 4, cap, .inr (.inr (.inr (.inr (fun j => L[j]?))))))]) (wJ ([(lo, .inr (0, [.int (nI mc), .ref ld, .int (nI L.length)]))]) pl)) := vd_perm hp7 hD
  refine lv_aload_n hx hb dJx4a65c_add_9ea2d_0 rfl (lv_at hl 0 rfl) ?_
  refine lv_dup hx hb dJx4a65c_add_9ea2d_1 rfl ?_
  refine va_get (D := D) (ci := 0) (v := .int (nI mc)) (C := RJx4a65c) (T := TJx4a65c) (N := 3) hx hb hts hin_RJx4a65c hown hE.1 hP 1 rfl rfl 0 (by decide) (hts (.fieldLink RJx4a65c 63 "java/util/ArrayList" "modCount" "I") (by decide +kernel)) (fun x9 h9 => u_same (hts (.sameField "java/util/ArrayList" "java/util/AbstractList" "modCount" "I") (by decide +kernel)) x9 h9) rfl dJx4a65c_add_9ea2d_2 ?_
  refine lv_iconst (v := 1) hx hb dJx4a65c_add_9ea2d_5 (by decide) ?_
  refine lv_iadd hx hb dJx4a65c_add_9ea2d_6 ?_
  refine vg_tp (nI (mc + 1)) (nI_add mc 1) ?_
  refine va_put (D := (D)) (ci := 0) (v := .int (nI (mc + 1))) (ty := .int) (C := RJx4a65c) (T := TJx4a65c) (N := 3) hx hb hts hin_RJx4a65c tyJx4a65c tyJx4a65c_ok nmJx4a65c hown hE.1 hP hD hS 1 rfl rfl 0 (by decide) (hts (.fieldLink RJx4a65c 63 "java/util/ArrayList" "modCount" "I") (by decide +kernel)) (fun x9 h9 => u_same (hts (.sameField "java/util/ArrayList" "java/util/AbstractList" "modCount" "I") (by decide +kernel)) x9 h9) rfl (by decide +kernel) rfl rfl (Nat.le_of_ble_eq_true rfl) dJx4a65c_add_9ea2d_7 (fun H locs hP hD hS => ?_)
  have hP : va_P D vwCl (wJ ([(ld, .inl (cy 4, cap, .inr (.inr (.inr (.inr (fun j => L[j]?))))))]) (wJ ([(lo, .inr (0, [.int (nI (mc + 1)), .ref ld, .int (nI L.length)]))]) pl)) H := hP
  have hD : va_D A0 (wJ ([(ld, .inl (cy 4, cap, .inr (.inr (.inr (.inr (fun j => L[j]?))))))]) (wJ ([(lo, .inr (0, [.int (nI (mc + 1)), .ref ld, .int (nI L.length)]))]) pl)) := hD
  refine lv_aload_n hx hb dJx4a65c_add_9ea2d_10 rfl (lv_at hl 0 rfl) ?_
  refine lv_aload_n hx hb dJx4a65c_add_9ea2d_11 rfl (lv_at hl 1 rfl) ?_
  refine lv_aload_n hx hb dJx4a65c_add_9ea2d_12 rfl (lv_at hl 0 rfl) ?_
  refine va_get (D := D) (ci := 0) (v := .ref ld) (C := RJx4a65c) (T := TJx4a65c) (N := 3) hx hb hts hin_RJx4a65c hown hE.1 hP 1 rfl rfl 1 (by decide) (hts (.fieldLink RJx4a65c 9 "java/util/ArrayList" "elementData" "[Ljava/lang/Object;") (by decide +kernel)) (fun _ h9 => h9) rfl dJx4a65c_add_9ea2d_13 ?_
  refine lv_aload_n hx hb dJx4a65c_add_9ea2d_16 rfl (lv_at hl 0 rfl) ?_
  refine va_get (D := D) (ci := 0) (v := .int (nI L.length)) (C := RJx4a65c) (T := TJx4a65c) (N := 3) hx hb hts hin_RJx4a65c hown hE.1 hP 1 rfl rfl 2 (by decide) (hts (.fieldLink RJx4a65c 48 "java/util/ArrayList" "size" "I") (by decide +kernel)) (fun _ h9 => h9) rfl dJx4a65c_add_9ea2d_17 ?_
  have hp9 : (wJ ([(ld, .inl (cy 4, cap, .inr (.inr (.inr (.inr (fun j => L[j]?))))))]) (wJ ([(lo, .inr (0, [.int (nI (mc + 1)), .ref ld, .int (nI L.length)]))]) pl) : va_W).Perm (wJ (wJ ([(lo, .inr (0, [.int (nI (mc + 1)), .ref ld, .int (nI L.length)]))]) (wJ ([(ld, .inl (cy 4, cap, .inr (.inr (.inr (.inr (fun j => L[j]?))))))]) pl)) ([] : va_W)) := (vp_pc (fun n9 hn9 h90 => by simp only [wJ, hn9, h90, Nat.add_zero, Nat.zero_add] <;> ac_rfl))
  refine vj_callv (va_runV (As := [.ref y, .ref ld, .int (nI L.length)]) (rest := []) ⟨hx, hb, hml, hown, hts⟩ (kJx4a65c_add_72be8_room l D cy H.size e0 mi lo (mc + 1) ld cap L pl ci q y hq hca hy hfu hcm) (cwV 3 hts gJx4a65c_add_9ea2d_Jx4a65c_add_72be8 rfl rfl rfl (by decide +kernel) ⟨Nat.le_of_ble_eq_true rfl, Nat.le_of_ble_eq_true rfl⟩) (vh_P.preV hE hF hZ hS (vj_free (vd_perm hp9 hD) hS hA) hP 1 rfl rfl (vp_app.mp (vp_perm hP hp9)).1 (vd_app.mp (vd_perm hp9 hD)).1) rfl rfl hl.1 rfl (lv_room (Nat.le_of_ble_eq_true rfl)) dJx4a65c_add_9ea2d_20 ⟨Nat.le_of_ble_eq_true rfl, Nat.le_of_ble_eq_true rfl⟩) hP hD hS hA hp9 (fun u1 H locs hu9 hP hD hS => ?_)
  have hu9 : u1.2 = cap := hu9
  have hp7 : (wJ (wJ ([(lo, .inr (0, [.int (nI (mc + 1)), .ref u1.1, .int (nI ((L ++ [y]).length))]))]) (wJ ([(u1.1, .inl (cy 4, u1.2, .inr (.inr (.inr (.inr (fun j => (L ++ [y])[j]?))))))]) pl)) ([] : va_W) : va_W).Perm (wJ ([(lo, .inr (0, [.int (nI (mc + 1)), .ref u1.1, .int (nI ((L ++ [y]).length))]))]) (wJ ([(u1.1, .inl (cy 4, u1.2, .inr (.inr (.inr (.inr (fun j => (L ++ [y])[j]?))))))]) pl)) := (vp_pc (fun n9 hn9 h90 => by simp only [wJ, hn9, h90, Nat.add_zero, Nat.zero_add] <;> ac_rfl))
  have hP : va_P D vwCl (wJ ([(lo, .inr (0, [.int (nI (mc + 1)), .ref u1.1, .int (nI ((L ++ [y]).length))]))]) (wJ ([(u1.1, .inl (cy 4, u1.2, .inr (.inr (.inr (.inr (fun j => (L ++ [y])[j]?))))))]) pl)) H := vp_perm hP hp7
  have hD : va_D A0 (wJ ([(lo, .inr (0, [.int (nI (mc + 1)), .ref u1.1, .int (nI ((L ++ [y]).length))]))]) (wJ ([(u1.1, .inl (cy 4, u1.2, .inr (.inr (.inr (.inr (fun j => (L ++ [y])[j]?))))))]) pl)) := vd_perm hp7 hD
  have hp7 : (wJ ([(lo, .inr (0, [.int (nI (mc + 1)), .ref u1.1, .int (nI ((L ++ [y]).length))]))]) (wJ ([(u1.1, .inl (cy 4, u1.2, .inr (.inr (.inr (.inr (fun j => (L ++ [y])[j]?))))))]) pl) : va_W).Perm (wJ ([(lo, .inr (0, [.int (nI (mc + 1)), .ref u1.1, .int (nI ((L ++ [y]).length))]))]) (wJ (La cy u1.1 u1.2 (L ++ [y])) pl)) := vp_swap (u := [(u1.1, .inl (cy 4, u1.2, .inr (.inr (.inr (.inr (fun j => (L ++ [y])[j]?))))))]) (u2 := La cy u1.1 u1.2 (L ++ [y])) (r := wJ ([(lo, .inr (0, [.int (nI (mc + 1)), .ref u1.1, .int (nI ((L ++ [y]).length))]))]) pl) (vp_pc (fun n9 hn9 h90 => by simp only [wJ, hn9, h90, Nat.add_zero, Nat.zero_add] <;> ac_rfl)) (List.Perm.of_eq (La_ne cy u1.1 u1.2 (by simp)).symm) (vp_pc (fun n9 hn9 h90 => by simp only [wJ, hn9, h90, Nat.add_zero, Nat.zero_add] <;> ac_rfl))
  have hP : va_P D vwCl (wJ ([(lo, .inr (0, [.int (nI (mc + 1)), .ref u1.1, .int (nI ((L ++ [y]).length))]))]) (wJ (La cy u1.1 u1.2 (L ++ [y])) pl)) H := vp_perm hP hp7
  have hD : va_D A0 (wJ ([(lo, .inr (0, [.int (nI (mc + 1)), .ref u1.1, .int (nI ((L ++ [y]).length))]))]) (wJ (La cy u1.1 u1.2 (L ++ [y])) pl)) := vd_perm hp7 hD
  refine lv_iconst (v := 1) hx hb dJx4a65c_add_9ea2d_23 (by decide) ?_
  subst hA0
  refine W.widen (k := 1) (n := 1234) (by omega) (by omega) ?_
  refine vg_tp 1 (rfl) ?_
  exact W.zret (v := (1 : Int32)) (ty := .boolean) hx hb hr rfl (fun t ht hW => ⟨⟨(1 : Int32), (u1.1, u1.2), rfl, ⟨rfl, vl_ok9 (by rw [hu9]; exact hcm) (by rw [hu9]; simp; omega)⟩, (by rw [ht]; exact hP), hD⟩, hS.F ht⟩) hS.2.2 dJx4a65c_add_9ea2d_24

set_option maxHeartbeats 4000000 in
set_option maxRecDepth 100000 in
theorem kJx4a65c_add_9ea2d_full (l : Launch) (D : va_G) (cy : Nat → ClassId) (sz e0 mi : Nat) (lo : Nat) (mc : Nat) (ld : Nat) (cap : Nat) (L : List Nat) (pl : va_W) (ci : Nat) (q : vw_C) (y : Nat) (hq : vwCl[ci]? = some q) (hca : Cond.castable q.1 "java/lang/Object" ∈ vg_nwl) (hy : ∃ vs, ((y, .inr (ci, vs)) : Nat × va_E) ∈ pl) (hfu : L.length = cap) (hcm : cap ∈ vl_caps) (hc2 : cap < 1234) (hel : vl_el L pl ci) (hne : L ≠ []) : Met l yJx4a65c_add_9ea2d wsJx4a65c_add_9ea2d ({ frames := 6, cells := 1, slots := 1234, locals := 177 }) (vh_P D cy e0 mi [.ref lo, .ref y] sz (wJ ([(lo, .inr (0, [.int (nI mc), .ref ld, .int (nI L.length)]))]) (wJ (La cy ld cap L) pl))) (vg_Qi (S := Nat × Nat) D sz (wJ ([(lo, .inr (0, [.int (nI mc), .ref ld, .int (nI L.length)]))]) (wJ (La cy ld cap L) pl)) (fun r u => r = (1 : Int32) ∧ vl_ok e0 u.1 u.2 (L ++ [y])) (fun u => wJ ([(lo, .inr (0, [.int (nI (mc + 1)), .ref u.1, .int (nI ((L ++ [y]).length))]))]) (wJ (La cy u.1 u.2 (L ++ [y])) pl))) 1 1234 (va_A (wJ ([(lo, .inr (0, [.int (nI mc), .ref ld, .int (nI L.length)]))]) (wJ (La cy ld cap L) pl)) sz) := by
  refine Met.ofW (cc := cJx4a65c_add_9ea2d) (maxL := 2) (ret := (some .boolean)) (by decide) rfl ?_
  intro p e s m args below meth c s₁ BB hml hv
  obtain ⟨rfl, hsz, hP, hE, hD0, hF, hZ⟩ := hv
  have hx := BB.exec
  have hb := BB.bytes
  have hr := BB.returns
  have hts := atoms_spec (ws := wsJx4a65c_add_9ea2d) BB.pre
  have hown : s.vm.findClass RJx4a65c = some m.cls := findClass_of_methodNamed BB.named
  have hlocks := BB.notSynchronized
  subst hsz
  have hD := hD0.self (sz := s.heap.size)
  have hA : ∀ q : Nat, s.heap.size ≤ q → (va_A (wJ ([(lo, .inr (0, [.int (nI mc), .ref ld, .int (nI L.length)]))]) (wJ (La cy ld cap L) pl)) s.heap.size) q := fun q h => Or.inr h
  have hS : va_S (va_A (wJ ([(lo, .inr (0, [.int (nI mc), .ref ld, .int (nI L.length)]))]) (wJ (La cy ld cap L) pl)) s.heap.size) s.heap s.heap [] := va_S.rf
  obtain ⟨A0, hA0⟩ : ∃ A0 : Nat → Prop, A0 = va_A (wJ ([(lo, .inr (0, [.int (nI mc), .ref ld, .int (nI L.length)]))]) (wJ (La cy ld cap L) pl)) s.heap.size := ⟨_, rfl⟩
  rw [← hA0]
  rw [← hA0] at hD hA hS hZ
  have hin_RJx4a65c : ∀ w ∈ u_ws RJx4a65c TJx4a65c 3, w ∈ wsJx4a65c_add_9ea2d := by decide +kernel
  have hl := lv_entry ([.ref lo, .ref y]) (n := 2) (Nat.le_of_ble_eq_true rfl)
  rw [lg_entry_eq]
  generalize (lg_sl ([.ref lo, .ref y]) ++ List.replicate (2 - (lg_sl ([.ref lo, .ref y])).length) Slot.unset).toArray = ls at hl ⊢
  have hl : lv_has ls 2 [(0, .ref lo), (1, .ref y)] := hl
  have hc10 := vl_cap10 hcm
  have hp7 : (wJ ([(lo, .inr (0, [.int (nI mc), .ref ld, .int (nI L.length)]))]) (wJ (La cy ld cap L) pl) : va_W).Perm (wJ ([(ld, .inl (cy 4, cap, .inr (.inr (.inr (.inr (fun j => L[j]?))))))]) (wJ ([(lo, .inr (0, [.int (nI mc), .ref ld, .int (nI L.length)]))]) pl)) := vp_swap (u := La cy ld cap L) (u2 := [(ld, .inl (cy 4, cap, .inr (.inr (.inr (.inr (fun j => L[j]?))))))]) (r := wJ ([(lo, .inr (0, [.int (nI mc), .ref ld, .int (nI L.length)]))]) pl) (vp_pc (fun n9 hn9 h90 => by simp only [wJ, hn9, h90, Nat.add_zero, Nat.zero_add] <;> ac_rfl)) (List.Perm.of_eq (La_ne cy ld cap hne)) (List.Perm.refl _)
  have hP : va_P D vwCl (wJ ([(ld, .inl (cy 4, cap, .inr (.inr (.inr (.inr (fun j => L[j]?))))))]) (wJ ([(lo, .inr (0, [.int (nI mc), .ref ld, .int (nI L.length)]))]) pl)) s.heap := vp_perm hP hp7
  have hD : va_D A0 (wJ ([(ld, .inl (cy 4, cap, .inr (.inr (.inr (.inr (fun j => L[j]?))))))]) (wJ ([(lo, .inr (0, [.int (nI mc), .ref ld, .int (nI L.length)]))]) pl)) := vd_perm hp7 hD
  refine lv_aload_n hx hb dJx4a65c_add_9ea2d_0 rfl (lv_at hl 0 rfl) ?_
  refine lv_dup hx hb dJx4a65c_add_9ea2d_1 rfl ?_
  refine va_get (D := D) (ci := 0) (v := .int (nI mc)) (C := RJx4a65c) (T := TJx4a65c) (N := 3) hx hb hts hin_RJx4a65c hown hE.1 hP 1 rfl rfl 0 (by decide) (hts (.fieldLink RJx4a65c 63 "java/util/ArrayList" "modCount" "I") (by decide +kernel)) (fun x9 h9 => u_same (hts (.sameField "java/util/ArrayList" "java/util/AbstractList" "modCount" "I") (by decide +kernel)) x9 h9) rfl dJx4a65c_add_9ea2d_2 ?_
  refine lv_iconst (v := 1) hx hb dJx4a65c_add_9ea2d_5 (by decide) ?_
  refine lv_iadd hx hb dJx4a65c_add_9ea2d_6 ?_
  refine vg_tp (nI (mc + 1)) (nI_add mc 1) ?_
  refine va_put (D := (D)) (ci := 0) (v := .int (nI (mc + 1))) (ty := .int) (C := RJx4a65c) (T := TJx4a65c) (N := 3) hx hb hts hin_RJx4a65c tyJx4a65c tyJx4a65c_ok nmJx4a65c hown hE.1 hP hD hS 1 rfl rfl 0 (by decide) (hts (.fieldLink RJx4a65c 63 "java/util/ArrayList" "modCount" "I") (by decide +kernel)) (fun x9 h9 => u_same (hts (.sameField "java/util/ArrayList" "java/util/AbstractList" "modCount" "I") (by decide +kernel)) x9 h9) rfl (by decide +kernel) rfl rfl (Nat.le_of_ble_eq_true rfl) dJx4a65c_add_9ea2d_7 (fun H locs hP hD hS => ?_)
  have hP : va_P D vwCl (wJ ([(ld, .inl (cy 4, cap, .inr (.inr (.inr (.inr (fun j => L[j]?))))))]) (wJ ([(lo, .inr (0, [.int (nI (mc + 1)), .ref ld, .int (nI L.length)]))]) pl)) H := hP
  have hD : va_D A0 (wJ ([(ld, .inl (cy 4, cap, .inr (.inr (.inr (.inr (fun j => L[j]?))))))]) (wJ ([(lo, .inr (0, [.int (nI (mc + 1)), .ref ld, .int (nI L.length)]))]) pl)) := hD
  refine lv_aload_n hx hb dJx4a65c_add_9ea2d_10 rfl (lv_at hl 0 rfl) ?_
  refine lv_aload_n hx hb dJx4a65c_add_9ea2d_11 rfl (lv_at hl 1 rfl) ?_
  refine lv_aload_n hx hb dJx4a65c_add_9ea2d_12 rfl (lv_at hl 0 rfl) ?_
  refine va_get (D := D) (ci := 0) (v := .ref ld) (C := RJx4a65c) (T := TJx4a65c) (N := 3) hx hb hts hin_RJx4a65c hown hE.1 hP 1 rfl rfl 1 (by decide) (hts (.fieldLink RJx4a65c 9 "java/util/ArrayList" "elementData" "[Ljava/lang/Object;") (by decide +kernel)) (fun _ h9 => h9) rfl dJx4a65c_add_9ea2d_13 ?_
  refine lv_aload_n hx hb dJx4a65c_add_9ea2d_16 rfl (lv_at hl 0 rfl) ?_
  refine va_get (D := D) (ci := 0) (v := .int (nI L.length)) (C := RJx4a65c) (T := TJx4a65c) (N := 3) hx hb hts hin_RJx4a65c hown hE.1 hP 1 rfl rfl 2 (by decide) (hts (.fieldLink RJx4a65c 48 "java/util/ArrayList" "size" "I") (by decide +kernel)) (fun _ h9 => h9) rfl dJx4a65c_add_9ea2d_17 ?_
  have hp9 : (wJ ([(ld, .inl (cy 4, cap, .inr (.inr (.inr (.inr (fun j => L[j]?))))))]) (wJ ([(lo, .inr (0, [.int (nI (mc + 1)), .ref ld, .int (nI L.length)]))]) pl) : va_W).Perm (wJ (wJ ([(lo, .inr (0, [.int (nI (mc + 1)), .ref ld, .int (nI L.length)]))]) (wJ ([(ld, .inl (cy 4, cap, .inr (.inr (.inr (.inr (fun j => L[j]?))))))]) pl)) ([] : va_W)) := (vp_pc (fun n9 hn9 h90 => by simp only [wJ, hn9, h90, Nat.add_zero, Nat.zero_add] <;> ac_rfl))
  refine vj_callv (va_runV (As := [.ref y, .ref ld, .int (nI L.length)]) (rest := []) ⟨hx, hb, hml, hown, hts⟩ (kJx4a65c_add_72be8_full l D cy H.size e0 mi lo (mc + 1) ld cap L pl ci q y hq hca hy hfu hcm hc2 hel) (cwV 3 hts gJx4a65c_add_9ea2d_Jx4a65c_add_72be8 rfl rfl rfl (by decide +kernel) ⟨Nat.le_of_ble_eq_true rfl, Nat.le_of_ble_eq_true rfl⟩) (vh_P.preV hE hF hZ hS (vj_free (vd_perm hp9 hD) hS hA) hP 1 rfl rfl (vp_app.mp (vp_perm hP hp9)).1 (vd_app.mp (vd_perm hp9 hD)).1) rfl rfl hl.1 rfl (lv_room (Nat.le_of_ble_eq_true rfl)) dJx4a65c_add_9ea2d_20 ⟨Nat.le_of_ble_eq_true rfl, Nat.le_of_ble_eq_true rfl⟩) hP hD hS hA hp9 (fun u1 H locs hu9 hP hD hS => ?_)
  have hu9 : u1.2 = cap + cap / 2 := hu9
  have hp7 : (wJ (wJ ([(lo, .inr (0, [.int (nI (mc + 1)), .ref u1.1, .int (nI ((L ++ [y]).length))]))]) (wJ ([(u1.1, .inl (cy 4, u1.2, .inr (.inr (.inr (.inr (fun j => (L ++ [y])[j]?))))))]) pl)) ([] : va_W) : va_W).Perm (wJ ([(lo, .inr (0, [.int (nI (mc + 1)), .ref u1.1, .int (nI ((L ++ [y]).length))]))]) (wJ ([(u1.1, .inl (cy 4, u1.2, .inr (.inr (.inr (.inr (fun j => (L ++ [y])[j]?))))))]) pl)) := (vp_pc (fun n9 hn9 h90 => by simp only [wJ, hn9, h90, Nat.add_zero, Nat.zero_add] <;> ac_rfl))
  have hP : va_P D vwCl (wJ ([(lo, .inr (0, [.int (nI (mc + 1)), .ref u1.1, .int (nI ((L ++ [y]).length))]))]) (wJ ([(u1.1, .inl (cy 4, u1.2, .inr (.inr (.inr (.inr (fun j => (L ++ [y])[j]?))))))]) pl)) H := vp_perm hP hp7
  have hD : va_D A0 (wJ ([(lo, .inr (0, [.int (nI (mc + 1)), .ref u1.1, .int (nI ((L ++ [y]).length))]))]) (wJ ([(u1.1, .inl (cy 4, u1.2, .inr (.inr (.inr (.inr (fun j => (L ++ [y])[j]?))))))]) pl)) := vd_perm hp7 hD
  have hp7 : (wJ ([(lo, .inr (0, [.int (nI (mc + 1)), .ref u1.1, .int (nI ((L ++ [y]).length))]))]) (wJ ([(u1.1, .inl (cy 4, u1.2, .inr (.inr (.inr (.inr (fun j => (L ++ [y])[j]?))))))]) pl) : va_W).Perm (wJ ([(lo, .inr (0, [.int (nI (mc + 1)), .ref u1.1, .int (nI ((L ++ [y]).length))]))]) (wJ (La cy u1.1 u1.2 (L ++ [y])) pl)) := vp_swap (u := [(u1.1, .inl (cy 4, u1.2, .inr (.inr (.inr (.inr (fun j => (L ++ [y])[j]?))))))]) (u2 := La cy u1.1 u1.2 (L ++ [y])) (r := wJ ([(lo, .inr (0, [.int (nI (mc + 1)), .ref u1.1, .int (nI ((L ++ [y]).length))]))]) pl) (vp_pc (fun n9 hn9 h90 => by simp only [wJ, hn9, h90, Nat.add_zero, Nat.zero_add] <;> ac_rfl)) (List.Perm.of_eq (La_ne cy u1.1 u1.2 (by simp)).symm) (vp_pc (fun n9 hn9 h90 => by simp only [wJ, hn9, h90, Nat.add_zero, Nat.zero_add] <;> ac_rfl))
  have hP : va_P D vwCl (wJ ([(lo, .inr (0, [.int (nI (mc + 1)), .ref u1.1, .int (nI ((L ++ [y]).length))]))]) (wJ (La cy u1.1 u1.2 (L ++ [y])) pl)) H := vp_perm hP hp7
  have hD : va_D A0 (wJ ([(lo, .inr (0, [.int (nI (mc + 1)), .ref u1.1, .int (nI ((L ++ [y]).length))]))]) (wJ (La cy u1.1 u1.2 (L ++ [y])) pl)) := vd_perm hp7 hD
  refine lv_iconst (v := 1) hx hb dJx4a65c_add_9ea2d_23 (by decide) ?_
  subst hA0
  refine W.widen (k := 1) (n := 1234) (by omega) (by omega) ?_
  refine vg_tp 1 (rfl) ?_
  exact W.zret (v := (1 : Int32)) (ty := .boolean) hx hb hr rfl (fun t ht hW => ⟨⟨(1 : Int32), (u1.1, u1.2), rfl, ⟨rfl, vl_ok9 (by rw [hu9]; exact vl_capn hcm hc2) (by rw [hu9]; simp; omega)⟩, (by rw [ht]; exact hP), hD⟩, hS.F ht⟩) hS.2.2 dJx4a65c_add_9ea2d_24

set_option maxHeartbeats 4000000 in
set_option maxRecDepth 100000 in
theorem kJx4a65c_add_9ea2d_fresh (l : Launch) (D : va_G) (cy : Nat → ClassId) (sz e0 mi : Nat) (lo : Nat) (mc : Nat) (cap : Nat) (pl : va_W) (ci : Nat) (q : vw_C) (y : Nat) (hq : vwCl[ci]? = some q) (hca : Cond.castable q.1 "java/lang/Object" ∈ vg_nwl) (hy : ∃ vs, ((y, .inr (ci, vs)) : Nat × va_E) ∈ pl) : Met l yJx4a65c_add_9ea2d wsJx4a65c_add_9ea2d ({ frames := 6, cells := 1, slots := 1234, locals := 177 }) (vh_P D cy e0 mi [.ref lo, .ref y] sz (wJ ([(lo, .inr (0, [.int (nI mc), .ref e0, .int (nI 0)]))]) (wJ (La cy e0 cap ([] : List Nat)) pl))) (vg_Qi (S := Nat × Nat) D sz (wJ ([(lo, .inr (0, [.int (nI mc), .ref e0, .int (nI 0)]))]) (wJ (La cy e0 cap ([] : List Nat)) pl)) (fun r u => r = (1 : Int32) ∧ vl_ok e0 u.1 u.2 ([y] : List Nat)) (fun u => wJ ([(lo, .inr (0, [.int (nI (mc + 1)), .ref u.1, .int (nI (([y] : List Nat).length))]))]) (wJ (La cy u.1 u.2 ([y] : List Nat)) pl))) 1 1234 (va_A (wJ ([(lo, .inr (0, [.int (nI mc), .ref e0, .int (nI 0)]))]) (wJ (La cy e0 cap ([] : List Nat)) pl)) sz) := by
  refine Met.ofW (cc := cJx4a65c_add_9ea2d) (maxL := 2) (ret := (some .boolean)) (by decide) rfl ?_
  intro p e s m args below meth c s₁ BB hml hv
  obtain ⟨rfl, hsz, hP, hE, hD0, hF, hZ⟩ := hv
  have hx := BB.exec
  have hb := BB.bytes
  have hr := BB.returns
  have hts := atoms_spec (ws := wsJx4a65c_add_9ea2d) BB.pre
  have hown : s.vm.findClass RJx4a65c = some m.cls := findClass_of_methodNamed BB.named
  have hlocks := BB.notSynchronized
  subst hsz
  have hD := hD0.self (sz := s.heap.size)
  have hA : ∀ q : Nat, s.heap.size ≤ q → (va_A (wJ ([(lo, .inr (0, [.int (nI mc), .ref e0, .int (nI 0)]))]) (wJ (La cy e0 cap ([] : List Nat)) pl)) s.heap.size) q := fun q h => Or.inr h
  have hS : va_S (va_A (wJ ([(lo, .inr (0, [.int (nI mc), .ref e0, .int (nI 0)]))]) (wJ (La cy e0 cap ([] : List Nat)) pl)) s.heap.size) s.heap s.heap [] := va_S.rf
  obtain ⟨A0, hA0⟩ : ∃ A0 : Nat → Prop, A0 = va_A (wJ ([(lo, .inr (0, [.int (nI mc), .ref e0, .int (nI 0)]))]) (wJ (La cy e0 cap ([] : List Nat)) pl)) s.heap.size := ⟨_, rfl⟩
  rw [← hA0]
  rw [← hA0] at hD hA hS hZ
  have hin_RJx4a65c : ∀ w ∈ u_ws RJx4a65c TJx4a65c 3, w ∈ wsJx4a65c_add_9ea2d := by decide +kernel
  have hl := lv_entry ([.ref lo, .ref y]) (n := 2) (Nat.le_of_ble_eq_true rfl)
  rw [lg_entry_eq]
  generalize (lg_sl ([.ref lo, .ref y]) ++ List.replicate (2 - (lg_sl ([.ref lo, .ref y])).length) Slot.unset).toArray = ls at hl ⊢
  have hl : lv_has ls 2 [(0, .ref lo), (1, .ref y)] := hl
  have hp7 : (wJ ([(lo, .inr (0, [.int (nI mc), .ref e0, .int (nI 0)]))]) (wJ (La cy e0 cap ([] : List Nat)) pl) : va_W).Perm (wJ ([(lo, .inr (0, [.int (nI mc), .ref e0, .int (nI 0)]))]) pl) := vp_swap (u := La cy e0 cap ([] : List Nat)) (u2 := []) (r := wJ ([(lo, .inr (0, [.int (nI mc), .ref e0, .int (nI 0)]))]) pl) (vp_pc (fun n9 hn9 h90 => by simp only [wJ, hn9, h90, Nat.add_zero, Nat.zero_add] <;> ac_rfl)) (List.Perm.of_eq (La_nil cy e0 cap)) (List.Perm.refl _)
  have hP : va_P D vwCl (wJ ([(lo, .inr (0, [.int (nI mc), .ref e0, .int (nI 0)]))]) pl) s.heap := vp_perm hP hp7
  have hD : va_D A0 (wJ ([(lo, .inr (0, [.int (nI mc), .ref e0, .int (nI 0)]))]) pl) := vd_perm hp7 hD
  refine lv_aload_n hx hb dJx4a65c_add_9ea2d_0 rfl (lv_at hl 0 rfl) ?_
  refine lv_dup hx hb dJx4a65c_add_9ea2d_1 rfl ?_
  refine va_get (D := D) (ci := 0) (v := .int (nI mc)) (C := RJx4a65c) (T := TJx4a65c) (N := 3) hx hb hts hin_RJx4a65c hown hE.1 hP 0 rfl rfl 0 (by decide) (hts (.fieldLink RJx4a65c 63 "java/util/ArrayList" "modCount" "I") (by decide +kernel)) (fun x9 h9 => u_same (hts (.sameField "java/util/ArrayList" "java/util/AbstractList" "modCount" "I") (by decide +kernel)) x9 h9) rfl dJx4a65c_add_9ea2d_2 ?_
  refine lv_iconst (v := 1) hx hb dJx4a65c_add_9ea2d_5 (by decide) ?_
  refine lv_iadd hx hb dJx4a65c_add_9ea2d_6 ?_
  refine vg_tp (nI (mc + 1)) (nI_add mc 1) ?_
  refine va_put (D := (D)) (ci := 0) (v := .int (nI (mc + 1))) (ty := .int) (C := RJx4a65c) (T := TJx4a65c) (N := 3) hx hb hts hin_RJx4a65c tyJx4a65c tyJx4a65c_ok nmJx4a65c hown hE.1 hP hD hS 0 rfl rfl 0 (by decide) (hts (.fieldLink RJx4a65c 63 "java/util/ArrayList" "modCount" "I") (by decide +kernel)) (fun x9 h9 => u_same (hts (.sameField "java/util/ArrayList" "java/util/AbstractList" "modCount" "I") (by decide +kernel)) x9 h9) rfl (by decide +kernel) rfl rfl (Nat.le_of_ble_eq_true rfl) dJx4a65c_add_9ea2d_7 (fun H locs hP hD hS => ?_)
  have hP : va_P D vwCl (wJ ([(lo, .inr (0, [.int (nI (mc + 1)), .ref e0, .int (nI 0)]))]) pl) H := hP
  have hD : va_D A0 (wJ ([(lo, .inr (0, [.int (nI (mc + 1)), .ref e0, .int (nI 0)]))]) pl) := hD
  refine lv_aload_n hx hb dJx4a65c_add_9ea2d_10 rfl (lv_at hl 0 rfl) ?_
  refine lv_aload_n hx hb dJx4a65c_add_9ea2d_11 rfl (lv_at hl 1 rfl) ?_
  refine lv_aload_n hx hb dJx4a65c_add_9ea2d_12 rfl (lv_at hl 0 rfl) ?_
  refine va_get (D := D) (ci := 0) (v := .ref e0) (C := RJx4a65c) (T := TJx4a65c) (N := 3) hx hb hts hin_RJx4a65c hown hE.1 hP 0 rfl rfl 1 (by decide) (hts (.fieldLink RJx4a65c 9 "java/util/ArrayList" "elementData" "[Ljava/lang/Object;") (by decide +kernel)) (fun _ h9 => h9) rfl dJx4a65c_add_9ea2d_13 ?_
  refine lv_aload_n hx hb dJx4a65c_add_9ea2d_16 rfl (lv_at hl 0 rfl) ?_
  refine va_get (D := D) (ci := 0) (v := .int (nI 0)) (C := RJx4a65c) (T := TJx4a65c) (N := 3) hx hb hts hin_RJx4a65c hown hE.1 hP 0 rfl rfl 2 (by decide) (hts (.fieldLink RJx4a65c 48 "java/util/ArrayList" "size" "I") (by decide +kernel)) (fun _ h9 => h9) rfl dJx4a65c_add_9ea2d_17 ?_
  have hp9 : (wJ ([(lo, .inr (0, [.int (nI (mc + 1)), .ref e0, .int (nI 0)]))]) pl : va_W).Perm (wJ (wJ ([(lo, .inr (0, [.int (nI (mc + 1)), .ref e0, .int (nI 0)]))]) pl) ([] : va_W)) := (vp_pc (fun n9 hn9 h90 => by simp only [wJ, hn9, h90, Nat.add_zero, Nat.zero_add] <;> ac_rfl))
  refine vj_callv (va_runV (As := [.ref y, .ref e0, .int (nI 0)]) (rest := []) ⟨hx, hb, hml, hown, hts⟩ (kJx4a65c_add_72be8_fresh l D cy H.size e0 mi lo (mc + 1) pl ci q y hq hca hy ) (cwV 3 hts gJx4a65c_add_9ea2d_Jx4a65c_add_72be8 rfl rfl rfl (by decide +kernel) ⟨Nat.le_of_ble_eq_true rfl, Nat.le_of_ble_eq_true rfl⟩) (vh_P.preV hE hF hZ hS (vj_free (vd_perm hp9 hD) hS hA) hP 0 rfl rfl (vp_app.mp (vp_perm hP hp9)).1 (vd_app.mp (vd_perm hp9 hD)).1) rfl rfl hl.1 rfl (lv_room (Nat.le_of_ble_eq_true rfl)) dJx4a65c_add_9ea2d_20 ⟨Nat.le_of_ble_eq_true rfl, Nat.le_of_ble_eq_true rfl⟩) hP hD hS hA hp9 (fun u1 H locs hu9 hP hD hS => ?_)
  have hu9 : u1.2 = 10 := hu9
  have hp7 : (wJ (wJ ([(lo, .inr (0, [.int (nI (mc + 1)), .ref u1.1, .int (nI (([y] : List Nat).length))]))]) (wJ ([(u1.1, .inl (cy 4, u1.2, .inr (.inr (.inr (.inr (fun j => ([y] : List Nat)[j]?))))))]) pl)) ([] : va_W) : va_W).Perm (wJ ([(lo, .inr (0, [.int (nI (mc + 1)), .ref u1.1, .int (nI (([y] : List Nat).length))]))]) (wJ ([(u1.1, .inl (cy 4, u1.2, .inr (.inr (.inr (.inr (fun j => ([y] : List Nat)[j]?))))))]) pl)) := (vp_pc (fun n9 hn9 h90 => by simp only [wJ, hn9, h90, Nat.add_zero, Nat.zero_add] <;> ac_rfl))
  have hP : va_P D vwCl (wJ ([(lo, .inr (0, [.int (nI (mc + 1)), .ref u1.1, .int (nI (([y] : List Nat).length))]))]) (wJ ([(u1.1, .inl (cy 4, u1.2, .inr (.inr (.inr (.inr (fun j => ([y] : List Nat)[j]?))))))]) pl)) H := vp_perm hP hp7
  have hD : va_D A0 (wJ ([(lo, .inr (0, [.int (nI (mc + 1)), .ref u1.1, .int (nI (([y] : List Nat).length))]))]) (wJ ([(u1.1, .inl (cy 4, u1.2, .inr (.inr (.inr (.inr (fun j => ([y] : List Nat)[j]?))))))]) pl)) := vd_perm hp7 hD
  have hp7 : (wJ ([(lo, .inr (0, [.int (nI (mc + 1)), .ref u1.1, .int (nI (([y] : List Nat).length))]))]) (wJ ([(u1.1, .inl (cy 4, u1.2, .inr (.inr (.inr (.inr (fun j => ([y] : List Nat)[j]?))))))]) pl) : va_W).Perm (wJ ([(lo, .inr (0, [.int (nI (mc + 1)), .ref u1.1, .int (nI (([y] : List Nat).length))]))]) (wJ (La cy u1.1 u1.2 ([y] : List Nat)) pl)) := vp_swap (u := [(u1.1, .inl (cy 4, u1.2, .inr (.inr (.inr (.inr (fun j => ([y] : List Nat)[j]?))))))]) (u2 := La cy u1.1 u1.2 ([y] : List Nat)) (r := wJ ([(lo, .inr (0, [.int (nI (mc + 1)), .ref u1.1, .int (nI (([y] : List Nat).length))]))]) pl) (vp_pc (fun n9 hn9 h90 => by simp only [wJ, hn9, h90, Nat.add_zero, Nat.zero_add] <;> ac_rfl)) (List.Perm.of_eq (La_ne cy u1.1 u1.2 (by simp)).symm) (vp_pc (fun n9 hn9 h90 => by simp only [wJ, hn9, h90, Nat.add_zero, Nat.zero_add] <;> ac_rfl))
  have hP : va_P D vwCl (wJ ([(lo, .inr (0, [.int (nI (mc + 1)), .ref u1.1, .int (nI (([y] : List Nat).length))]))]) (wJ (La cy u1.1 u1.2 ([y] : List Nat)) pl)) H := vp_perm hP hp7
  have hD : va_D A0 (wJ ([(lo, .inr (0, [.int (nI (mc + 1)), .ref u1.1, .int (nI (([y] : List Nat).length))]))]) (wJ (La cy u1.1 u1.2 ([y] : List Nat)) pl)) := vd_perm hp7 hD
  refine lv_iconst (v := 1) hx hb dJx4a65c_add_9ea2d_23 (by decide) ?_
  subst hA0
  refine W.widen (k := 1) (n := 1234) (by omega) (by omega) ?_
  refine vg_tp 1 (rfl) ?_
  exact W.zret (v := (1 : Int32)) (ty := .boolean) hx hb hr rfl (fun t ht hW => ⟨⟨(1 : Int32), (u1.1, u1.2), rfl, ⟨rfl, vl_ok1 (by rw [hu9]; decide) (by rw [hu9]; show 1 ≤ 10; omega)⟩, (by rw [ht]; exact hP), hD⟩, hS.F ht⟩) hS.2.2 dJx4a65c_add_9ea2d_24

set_option maxHeartbeats 4000000 in
set_option maxRecDepth 100000 in
theorem kJx4a65c_add_9ea2d (l : Launch) (D : va_G) (cy : Nat → ClassId) (sz e0 mi : Nat) (lo : Nat) (mc : Nat) (ld : Nat) (cap : Nat) (L : List Nat) (pl : va_W) (ci : Nat) (q : vw_C) (y : Nat) (hq : vwCl[ci]? = some q) (hca : Cond.castable q.1 "java/lang/Object" ∈ vg_nwl) (hy : ∃ vs, ((y, .inr (ci, vs)) : Nat × va_E) ∈ pl) (hok : vl_ok e0 ld cap L) (hlen : L.length ≤ 1023) (hel : vl_el L pl ci) : Met l yJx4a65c_add_9ea2d wsJx4a65c_add_9ea2d ({ frames := 6, cells := 1, slots := 1234, locals := 177 }) (vh_P D cy e0 mi [.ref lo, .ref y] sz (wJ ([(lo, .inr (0, [.int (nI mc), .ref ld, .int (nI L.length)]))]) (wJ (La cy ld cap L) pl))) (vg_Qi (S := Nat × Nat) D sz (wJ ([(lo, .inr (0, [.int (nI mc), .ref ld, .int (nI L.length)]))]) (wJ (La cy ld cap L) pl)) (fun r u => r = (1 : Int32) ∧ vl_ok e0 u.1 u.2 (L ++ [y])) (fun u => wJ ([(lo, .inr (0, [.int (nI (mc + 1)), .ref u.1, .int (nI ((L ++ [y]).length))]))]) (wJ (La cy u.1 u.2 (L ++ [y])) pl))) 1 1234 (va_A (wJ ([(lo, .inr (0, [.int (nI mc), .ref ld, .int (nI L.length)]))]) (wJ (La cy ld cap L) pl)) sz) := by
  rcases hok with ⟨hL, hd⟩ | ⟨hne, hcm, hlc⟩
  · subst hL
    subst hd
    exact kJx4a65c_add_9ea2d_fresh l D cy sz _ mi lo mc cap pl ci q y hq hca hy
  · by_cases h : L.length = cap
    · exact kJx4a65c_add_9ea2d_full l D cy sz e0 mi lo mc ld cap L pl ci q y hq hca hy h hcm (by omega) hel hne
    · exact kJx4a65c_add_9ea2d_room l D cy sz e0 mi lo mc ld cap L pl ci q y hq hca hy (by omega) hcm hne
