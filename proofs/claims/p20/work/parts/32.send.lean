/-! the four servers as a family; pools of cells -/
def fam4 (F : Nat → va_W) : va_W := F 0 ++ (F 1 ++ (F 2 ++ F 3))
def oth4 (F : Nat → va_W) (i : Nat) : va_W := (if i = 0 then [] else F 0) ++ ((if i = 1 then [] else F 1) ++ ((if i = 2 then [] else F 2) ++ (if i = 3 then [] else F 3)))
theorem fam4_foc (F : Nat → va_W) {i : Nat} (h : i < 4) : (fam4 F).Perm (F i ++ oth4 F i) := by
  have h4 : i = 0 ∨ i = 1 ∨ i = 2 ∨ i = 3 := by omega
  rcases h4 with rfl | rfl | rfl | rfl
  · exact vp_pc (fun n9 hn9 h90 => by simp [fam4, oth4, hn9] <;> omega)
  · exact vp_pc (fun n9 hn9 h90 => by simp [fam4, oth4, hn9] <;> omega)
  · exact vp_pc (fun n9 hn9 h90 => by simp [fam4, oth4, hn9] <;> omega)
  · exact vp_pc (fun n9 hn9 h90 => by simp [fam4, oth4, hn9] <;> omega)
theorem oth4_congr {F G : Nat → va_W} {i : Nat} (h : ∀ j, j ≠ i → G j = F j) : oth4 F i = oth4 G i := by
  unfold oth4
  have e : ∀ j, (if i = j then [] else F j) = (if i = j then [] else G j) := by
    intro j
    by_cases hj : i = j
    · rw [if_pos hj, if_pos hj]
    · rw [if_neg hj, if_neg hj, h j (fun q => hj q.symm)]
  rw [e 0, e 1, e 2, e 3]
theorem fam4_unf {F G : Nat → va_W} {i : Nat} {S : va_W} (h : i < 4) (hj : ∀ j, j ≠ i → G j = F j) (hS : G i = S) : (S ++ oth4 F i).Perm (fam4 G) := by
  rw [oth4_congr hj, ← hS]
  exact (fam4_foc G h).symm
def pool (n : Nat) (c : Nat → Nat × va_E) : va_W := (List.range n).map c
def poolo (n : Nat) (c : Nat → Nat × va_E) (j : Nat) : va_W := ((List.range n).filter (fun k => decide (k ≠ j))).map c
theorem pool_rng {n j : Nat} (h : j < n) : (List.range n).Perm (j :: (List.range n).filter (fun k => decide (k ≠ j))) := by
  rw [List.perm_iff_count]
  intro a
  rw [List.count_range, List.count_cons]
  by_cases e : a = j
  · subst e
    have : List.count a (List.filter (fun k => decide (k ≠ a)) (List.range n)) = 0 := List.count_eq_zero.mpr (by simp)
    rw [this]
    simp [h]
  · have : List.count a (List.filter (fun k => decide (k ≠ j)) (List.range n)) = List.count a (List.range n) := List.count_filter (by simp [e])
    rw [this, List.count_range]
    simp [Ne.symm e]
theorem pool_foc (c : Nat → Nat × va_E) {n j : Nat} (h : j < n) : (pool n c).Perm ([c j] ++ poolo n c j) := (pool_rng h).map c
theorem poolo_congr {c d : Nat → Nat × va_E} {n j : Nat} (h : ∀ k, k < n → k ≠ j → d k = c k) : poolo n c j = poolo n d j := by
  unfold poolo
  refine List.map_congr_left (fun k hk => ?_)
  rw [List.mem_filter, List.mem_range] at hk
  exact (h k hk.1 (of_decide_eq_true hk.2)).symm
theorem pool_unf {c d : Nat → Nat × va_E} {n j : Nat} {x : Nat × va_E} (hj : j < n) (h : ∀ k, k < n → k ≠ j → d k = c k) (hx : d j = x) : ([x] ++ poolo n c j).Perm (pool n d) := by
  rw [poolo_congr h, ← hx]
  exact (pool_foc d hj).symm
theorem pool_succ {c d : Nat → Nat × va_E} {n : Nat} {x : Nat × va_E} (h : ∀ k, k < n → d k = c k) (hx : d n = x) : ([x] ++ pool n c).Perm (pool (n + 1) d) := by
  have e : pool (n + 1) d = pool n c ++ [x] := by
    unfold pool
    rw [List.range_succ, List.map_append, List.map_cons, List.map_nil, hx]
    congr 1
    exact List.map_congr_left (fun k hk => h k (List.mem_range.mp hk))
  rw [e]
  exact List.perm_append_comm
theorem pool_mem (c : Nat → Nat × va_E) {n j : Nat} (h : j < n) : c j ∈ pool n c := List.mem_map.mpr ⟨j, List.mem_range.mpr h, rfl⟩
def uVP (vo sv hm nt nw np nc : Nat) : va_W := [(vo, .inr (5, [.ref sv, .ref hm, .ref nt, .ref nw, .int (nI np), .int (nI nc)]))]
def uHM (cy : Nat → ClassId) (hm : Nat) (χ : Nat → Nat) : va_W := [(hm, .inl (cy 0, 10, .inl (fun j => nI (χ j))))]
def uSV (cy : Nat → ClassId) (sv : Nat) (sa : Nat → Nat) : va_W := [(sv, .inl (cy 3, 4, .inr (.inr (.inr (.inr (fun j => some (sa j)))))))]
def uE0 (cy : Nat → ClassId) (e0 : Nat) : va_W := [(e0, .inl (cy 4, 0, .inr (.inr (.inr (.inr (fun _ => none))))))]
def uLO (a m d : Nat) (L : List Nat) : va_W := [(a, .inr (0, [.int (nI m), .ref d, .int (nI L.length)]))]
def uLD (cy : Nat → ClassId) (d cap : Nat) (L : List Nat) : va_W := [(d, .inl (cy 4, cap, .inr (.inr (.inr (.inr (fun j => L[j]?))))))]
def uSC (a k1 k2 k3 k4 d : Nat) : va_W := [(a, .inr (4, [.ref k1, .ref k2, .ref k3, .ref k4, .int (nI d)]))]
def uDN (cy : Nat → ClassId) (a : Nat) (δ : Nat → Int32) : va_W := [(a, .inl (cy 2, 512, .inl δ))]
/-- a server's cells: its own, its two lists, what is done there, its knowledge, the lists' arrays -/
def Sw (cy : Nat → ClassId) (a : Nat) (g h : Nat → Nat) (κ : Nat → Nat → Int32) (ζ : Nat → Nat → Int64) (L P : List Nat) (dl : Nat) (δ : Nat → Int32) : va_W := wJ (uSC a (g 1) (g 2) (g 3) (g 4) dl) (wJ (uLO (g 2) (h 4) (h 0) L) (wJ (uLO (g 3) (h 5) (h 2) P) (wJ (uDN cy (g 4) δ) (wJ (Kw cy (g 1) (fun j => g (10 + j)) κ ζ) (wJ (La cy (h 0) (h 1) L) (La cy (h 2) (h 3) P))))))
def Sv (cy : Nat → ClassId) (sa : Nat → Nat) (g h : Nat → Nat → Nat) (κ : Nat → Nat → Nat → Int32) (ζ : Nat → Nat → Nat → Int64) (L P : Nat → List Nat) (dl : Nat → Nat) (δ : Nat → Nat → Int32) : Nat → va_W := fun i => Sw cy (sa i) (g i) (h i) (κ i) (ζ i) (L i) (P i) (dl i) (δ i)
def vq_ok (e0 : Nat) (h : Nat → Nat → Nat) (L P : Nat → List Nat) : Prop := ∀ i, i < 4 → vl_ok e0 (h i 0) (h i 1) (L i) ∧ vl_ok e0 (h i 2) (h i 3) (P i)
def vq_el (L P : Nat → List Nat) (pl : va_W) : Prop := ∀ i, i < 4 → vl_el (L i) pl 1 ∧ vl_el (P i) pl 1
def vq_len (P : Nat → List Nat) (n : Nat) : Prop := ∀ i, i < 4 → (P i).length ≤ n
def vq_hP (h : Nat → Nat) (u : Nat × Nat) : Nat → Nat := va_up (va_up (va_up h 2 u.1) 3 u.2) 5 (h 5 + 1)
def vq_hL (h : Nat → Nat) (u : Nat × Nat) : Nat → Nat := va_up (va_up (va_up h 0 u.1) 1 u.2) 4 (h 4 + 1)
theorem vq_okP {e0 : Nat} {h : Nat → Nat → Nat} {L P : Nat → List Nat} {i : Nat} {u : Nat × Nat} {X : List Nat} (h0 : vq_ok e0 h L P) (hu : vl_ok e0 u.1 u.2 X) : vq_ok e0 (va_up h i (vq_hP (h i) u)) L (va_up P i X) := by
  intro j hj
  by_cases e : j = i
  · subst e
    rw [va_up_self, va_up_self]
    exact ⟨(h0 j hj).1, hu⟩
  · rw [va_up_ne _ _ e, va_up_ne _ _ e]
    exact h0 j hj
theorem vq_okL {e0 : Nat} {h : Nat → Nat → Nat} {L P : Nat → List Nat} {i : Nat} {u : Nat × Nat} {X : List Nat} (h0 : vq_ok e0 h L P) (hu : vl_ok e0 u.1 u.2 X) : vq_ok e0 (va_up h i (vq_hL (h i) u)) (va_up L i X) P := by
  intro j hj
  by_cases e : j = i
  · subst e
    rw [va_up_self, va_up_self]
    exact ⟨hu, (h0 j hj).2⟩
  · rw [va_up_ne _ _ e, va_up_ne _ _ e]
    exact h0 j hj
/-- the packets behind a sending of y to the servers of a set -/
def sPk (P : Nat → List Nat) (y : Nat) (to : Int32) : Nat → Nat → List Nat
  | 0 => P
  | i + 1 => if kHas to i = true then va_up (sPk P y to i) i (sPk P y to i i ++ [y]) else sPk P y to i
theorem sPk_y {P : Nat → List Nat} {y : Nat} {to : Int32} {i : Nat} (h : kHas to i = true) : sPk P y to (i + 1) = va_up (sPk P y to i) i (sPk P y to i i ++ [y]) := if_pos h
theorem sPk_n {P : Nat → List Nat} {y : Nat} {to : Int32} {i : Nat} (h : kHas to i = false) : sPk P y to (i + 1) = sPk P y to i := if_neg (by rw [h]; decide)
theorem sPk_ge (P : Nat → List Nat) (y : Nat) (to : Int32) {j : Nat} : ∀ i, i ≤ j → sPk P y to i j = P j
  | 0, _ => rfl
  | i + 1, h => by
    have ih := sPk_ge P y to (j := j) i (by omega)
    rw [sPk]
    split
    · rw [va_up_ne _ _ (by omega)]; exact ih
    · exact ih
theorem sPk_len {P : Nat → List Nat} {y : Nat} {to : Int32} {n : Nat} (h : vq_len P n) : ∀ i, vq_len (sPk P y to i) (n + 1)
  | 0 => fun j hj => Nat.le_succ_of_le (h j hj)
  | i + 1 => by
    have ih := sPk_len (y := y) (to := to) h i
    rw [sPk]
    split
    · intro j hj
      by_cases e : j = i
      · subst e
        rw [va_up_self, sPk_ge P y to j (Nat.le_refl _), List.length_append]
        exact Nat.succ_le_succ (h j hj)
      · rw [va_up_ne _ _ e]; exact ih j hj
    · exact ih
theorem vl_elc {L : List Nat} {pl : va_W} {y : Nat} (h : vl_el L pl 1) (hy : ∃ vs, ((y, .inr (1, vs)) : Nat × va_E) ∈ pl) : vl_el (L ++ [y]) pl 1 := by
  intro z hz
  rcases List.mem_append.mp hz with a | a
  · exact h z a
  · rw [List.mem_singleton] at a
    subst a
    exact hy
theorem vq_elP {L P : Nat → List Nat} {pl : va_W} {y : Nat} (h : vq_el L P pl) (hy : ∃ vs, ((y, .inr (1, vs)) : Nat × va_E) ∈ pl) (to : Int32) : ∀ i, vq_el L (sPk P y to i) pl
  | 0 => h
  | i + 1 => by
    have ih := vq_elP h hy to i
    rw [sPk]
    split
    · intro j hj
      by_cases e : j = i
      · subst e
        rw [va_up_self]
        exact ⟨(h j hj).1, vl_elc (ih j hj).2 hy⟩
      · rw [va_up_ne _ _ e]; exact ih j hj
    · exact ih
theorem vq_elL {L P : Nat → List Nat} {pl : va_W} {y i : Nat} (h : vq_el L P pl) (hy : ∃ vs, ((y, .inr (1, vs)) : Nat × va_E) ∈ pl) : vq_el (va_up L i (L i ++ [y])) P pl := by
  intro j hj
  by_cases e : j = i
  · subst e
    rw [va_up_self]
    exact ⟨vl_elc (h j hj).1 hy, (h j hj).2⟩
  · rw [va_up_ne _ _ e]; exact h j hj
theorem vq_el1 {ac an ak ap ab : Nat} {td : Int32} {pl : va_W} : ∃ vs, ((ac, .inr (1, vs)) : Nat × va_E) ∈ Aw ac an ak ap ab td ++ pl := ⟨_, List.mem_append_left _ List.mem_cons_self⟩
def rTo (χ : Nat → Nat) (κi : Nat → Nat → Int32) (t si au np : Nat) : Int32 := (kHo χ (kFo κi t 10) np &&& (kBit si ^^^ (-1))) &&& (kBit (χ au) ^^^ (-1))
def rTo2 (χ : Nat → Nat) (κi : Nat → Nat → Int32) (t si au np : Nat) (we : Int32) : Int32 := if χ au = si then rTo χ κi t si au np &&& (we ^^^ (-1)) else rTo χ κi t si au np
def rWe (χ : Nat → Nat) (si au : Nat) (we x : Int32) : Int32 := if χ au = si then we ||| x else we
def rSo (χ : Nat → Nat) (si au : Nat) (so x : Int32) : Int32 := if χ au = si then so else x
set_option maxHeartbeats 4000000 in
set_option maxRecDepth 100000 in
theorem kX4_send (l : Launch) (D : va_G) (cy : Nat → ClassId) (sz e0 mi : Nat) (vo : Nat) (sv : Nat) (hm : Nat) (nt : Nat) (nw : Nat) (np : Nat) (nc : Nat) (sa : Nat → Nat) (ac : Nat) (an : Nat) (ak : Nat) (ap : Nat) (ab : Nat) (td : Int32) (pl : va_W) (g : Nat → Nat → Nat) (h : Nat → Nat → Nat) (κ : Nat → Nat → Nat → Int32) (ζ : Nat → Nat → Nat → Int64) (L : Nat → List Nat) (P : Nat → List Nat) (dl : Nat → Nat) (δ : Nat → Nat → Int32) (to : Int32) (hok : vq_ok e0 h L P) (hel : vq_el L P (Aw ac an ak ap ab td ++ pl)) (hpn : vq_len P 1023) : Met l yX4_send wsX4_send ({ frames := 7, cells := 4, slots := 4936, locals := 198 }) (vh_P D cy e0 mi [.ref vo, .ref ac, .int to] sz (wJ (uVP vo sv hm nt nw np nc) (wJ (uSV cy sv sa) (wJ (Aw ac an ak ap ab td) (wJ pl (fam4 (Sv cy sa g h κ ζ L P dl δ))))))) (vg_Qv (S := Nat → Nat → Nat) D sz (wJ (uVP vo sv hm nt nw np nc) (wJ (uSV cy sv sa) (wJ (Aw ac an ak ap ab td) (wJ pl (fam4 (Sv cy sa g h κ ζ L P dl δ)))))) (fun u => vq_ok e0 u L (sPk P ac to 4)) (fun u => wJ (uVP vo sv hm nt nw np nc) (wJ (uSV cy sv sa) (wJ (Aw ac an ak ap ab td) (wJ pl (fam4 (Sv cy sa g u κ ζ L (sPk P ac to 4) dl δ))))))) 4 4936 (va_A (wJ (uVP vo sv hm nt nw np nc) (wJ (uSV cy sv sa) (wJ (Aw ac an ak ap ab td) (wJ pl (fam4 (Sv cy sa g h κ ζ L P dl δ)))))) sz) := by
  refine Met.ofW (cc := cX4_send) (maxL := 4) (ret := none) (by decide) rfl ?_
  intro p e s m args below meth c s₁ BB hml hv
  obtain ⟨rfl, hsz, hP, hE, hD0, hF, hZ⟩ := hv
  have hx := BB.exec
  have hb := BB.bytes
  have hr := BB.returns
  have hts := atoms_spec (ws := wsX4_send) BB.pre
  have hown : s.vm.findClass RX4 = some m.cls := findClass_of_methodNamed BB.named
  have hlocks := BB.notSynchronized
  subst hsz
  have hD := hD0.self (sz := s.heap.size)
  have hA : ∀ q : Nat, s.heap.size ≤ q → (va_A (wJ (uVP vo sv hm nt nw np nc) (wJ (uSV cy sv sa) (wJ (Aw ac an ak ap ab td) (wJ pl (fam4 (Sv cy sa g h κ ζ L P dl δ)))))) s.heap.size) q := fun q h => Or.inr h
  have hS : va_S (va_A (wJ (uVP vo sv hm nt nw np nc) (wJ (uSV cy sv sa) (wJ (Aw ac an ak ap ab td) (wJ pl (fam4 (Sv cy sa g h κ ζ L P dl δ)))))) s.heap.size) s.heap s.heap [] := va_S.rf
  obtain ⟨A0, hA0⟩ : ∃ A0 : Nat → Prop, A0 = va_A (wJ (uVP vo sv hm nt nw np nc) (wJ (uSV cy sv sa) (wJ (Aw ac an ak ap ab td) (wJ pl (fam4 (Sv cy sa g h κ ζ L P dl δ)))))) s.heap.size := ⟨_, rfl⟩
  rw [← hA0]
  rw [← hA0] at hD hA hS hZ
  have hin_RX3 : ∀ w ∈ u_ws RX3 TX3 5, w ∈ wsX4_send := by decide +kernel
  have hin_RX4 : ∀ w ∈ u_ws RX4 TX4 6, w ∈ wsX4_send := by decide +kernel
  have hl := lv_entry ([.ref vo, .ref ac, .int to]) (n := 4) (Nat.le_of_ble_eq_true rfl)
  rw [lg_entry_eq]
  generalize (lg_sl ([.ref vo, .ref ac, .int to]) ++ List.replicate (4 - (lg_sl ([.ref vo, .ref ac, .int to])).length) Slot.unset).toArray = ls at hl ⊢
  have hl : lv_has ls 4 [(0, .ref vo), (1, .ref ac), (2, .int to)] := hl
  have L2 : ∀ (fuel : Nat) (o0 : Nat) (h0 : Nat → Nat → Nat), 4 - o0 < fuel → (o0 ≤ 4) → (vq_ok e0 h0 L (sPk P ac to o0)) → ∀ (H : Heap) (locs : List Loc), va_P D vwCl (wJ (uVP vo sv hm nt nw np nc) (wJ (uSV cy sv sa) (wJ (Aw ac an ak ap ab td) (wJ pl (fam4 (Sv cy sa g h0 κ ζ L (sPk P ac to o0) dl δ)))))) H → va_D A0 (wJ (uVP vo sv hm nt nw np nc) (wJ (uSV cy sv sa) (wJ (Aw ac an ak ap ab td) (wJ pl (fam4 (Sv cy sa g h0 κ ζ L (sPk P ac to o0) dl δ)))))) → va_S A0 s.heap H locs → ∀ ls : Array Slot, lv_has ls 4 [(0, .ref vo), (1, .ref ac), (2, .int to), (3, .int (nI o0))] → W p l e (headSpec wsX4_send ({ frames := 7, cells := 4, slots := 4936, locals := 198 })).room s m ([.ref vo, .ref ac, .int to] : List Value).toArray below meth c H locs (o0) (1234 * o0) (MQ below (vg_Qv (S := Nat → Nat → Nat) D s.heap.size (wJ (uVP vo sv hm nt nw np nc) (wJ (uSV cy sv sa) (wJ (Aw ac an ak ap ab td) (wJ pl (fam4 (Sv cy sa g h κ ζ L P dl δ)))))) (fun u => vq_ok e0 u L (sPk P ac to 4)) (fun u => wJ (uVP vo sv hm nt nw np nc) (wJ (uSV cy sv sa) (wJ (Aw ac an ak ap ab td) (wJ pl (fam4 (Sv cy sa g u κ ζ L (sPk P ac to 4) dl δ))))))) ([.ref vo, .ref ac, .int to] : List Value).toArray s 4 4936 A0) (F0 m 2 ls []) := by
    intro fuel
    induction fuel with
    | zero => intros; omega
    | succ fuel ih =>
      intro o0 h0 hfuel hi hk H locs hP hD hS ls hl
      refine lv_iload_n hx hb dX4_send_2 rfl (lv_at hl 3 rfl) ?_
      refine lv_iconst (v := 4) hx hb dX4_send_3 (by decide) ?_
      refine lv_icmp_ge (tgt := 35) hx hb dX4_send_4 (by decide) (fun r1 => ?_) (fun r1 => ?_)
      · have c1 : 4 ≤ o0 := (nI_leI (a := 4) (b := o0) (by omega) (by omega)).mp r1
        have e4 : o0 = 4 := by omega
        subst e4
        subst hA0
        refine W.widen (k := 4) (n := 4936) (by omega) (by omega) ?_
        exact W.vret hx hb hr (fun t ht hW => ⟨⟨h0, rfl, hk, (by rw [ht]; exact hP), hD⟩, hS.F ht⟩) hS.2.2 dX4_send_35
      · have c1 : o0 < 4 := Nat.lt_of_not_le (fun q => r1 ((nI_leI (a := 4) (b := o0) (by omega) (by omega)).mpr q))
        refine lv_iload_n hx hb dX4_send_7 rfl (lv_at hl 2 rfl) ?_
        refine lv_iload_n hx hb dX4_send_8 rfl (lv_at hl 3 rfl) ?_
        refine vg_calliP (va_runS (As := [.int to, .int (nI o0)]) (rest := []) ⟨hx, hb, hml, hown, hts⟩ (kX4_has l D cy H.size to o0) (va_cwS 2 hts gX4_send_X4_has rfl rfl rfl (by decide +kernel) ⟨Nat.le_of_ble_eq_true rfl, Nat.le_of_ble_eq_true rfl⟩) (vg_P.preS hE vg_P0 (A := fun _ => True) vg_D0) rfl rfl hl.1 rfl (lv_room (Nat.le_of_ble_eq_true rfl)) dX4_send_9 ⟨by show o0 + 0 ≤ 4; omega, by show 1234 * o0 + 0 ≤ 4936; omega⟩) hP hD hS hA (fun r _ H locs hr hP hD hS => ?_)
        subst hr
        refine lv_if_eq (tgt := 29) hx hb dX4_send_12 (by decide) (fun r2 => ?_) (fun r2 => ?_)
        · have c2 : (kHas to o0) = false := bI_0.mp r2
          refine lv_iinc (v := (nI (o0 + 1))) (lv' := [(3, .int (nI (o0 + 1))), (0, .ref vo), (1, .ref ac), (2, .int to)]) hx hb dX4_send_29 hl (k := 3) rfl (by first | rfl | exact nI_add _ _ | decide) (by decide) rfl (fun ls hl => ?_)
          have hl : lv_has ls 4 [(0, .ref vo), (1, .ref ac), (2, .int to), (3, .int (nI (o0 + 1)))] := lv_sub hl [1, 2, 3, 0] rfl
          refine lv_goto (tgt := 2) hx hb dX4_send_32 (by decide) ?_
          have eW : (wJ (uVP vo sv hm nt nw np nc) (wJ (uSV cy sv sa) (wJ (Aw ac an ak ap ab td) (wJ pl (fam4 (Sv cy sa g h0 κ ζ L (sPk P ac to o0) dl δ))))) : va_W) = wJ (uVP vo sv hm nt nw np nc) (wJ (uSV cy sv sa) (wJ (Aw ac an ak ap ab td) (wJ pl (fam4 (Sv cy sa g h0 κ ζ L (sPk P ac to (o0 + 1)) dl δ))))) := by rw [sPk_n c2]
          have hP : va_P D vwCl (wJ (uVP vo sv hm nt nw np nc) (wJ (uSV cy sv sa) (wJ (Aw ac an ak ap ab td) (wJ pl (fam4 (Sv cy sa g h0 κ ζ L (sPk P ac to (o0 + 1)) dl δ)))))) H := by rw [← eW]; exact hP
          have hD : va_D A0 (wJ (uVP vo sv hm nt nw np nc) (wJ (uSV cy sv sa) (wJ (Aw ac an ak ap ab td) (wJ pl (fam4 (Sv cy sa g h0 κ ζ L (sPk P ac to (o0 + 1)) dl δ)))))) := by rw [← eW]; exact hD
          refine W.widen (k := (o0 + 1)) (n := 1234 * (o0 + 1)) (by omega) (by omega) ?_
          exact ih (o0 + 1) h0 (by omega) (by omega) (by rw [sPk_n c2]; exact hk) _ _ hP hD hS ls (by exact lv_sub hl [0, 1, 2, 3] rfl)
        · have c2 : (kHas to o0) = true := bI_n0.mp r2
          refine lv_aload_n hx hb dX4_send_15 rfl (lv_at hl 0 rfl) ?_
          refine va_get (D := D) (ci := 5) (v := .ref sv) (C := RX4) (T := TX4) (N := 6) hx hb hts hin_RX4 hown hE.1 hP 0 rfl rfl 0 (by decide) (hts (.fieldLink RX4 10 "Villagepost" "servers" "[LVillagepost$Server;") (by decide +kernel)) (fun _ h9 => h9) rfl dX4_send_16 ?_
          refine lv_iload_n hx hb dX4_send_19 rfl (lv_at hl 3 rfl) ?_
          refine vg_aldq hx hb hE.1 hP 1 3 rfl rfl (j := o0) (by omega) (by decide) (v := (sa o0)) rfl dX4_send_20 ?_
          have hp7 : (wJ (uVP vo sv hm nt nw np nc) (wJ (uSV cy sv sa) (wJ (Aw ac an ak ap ab td) (wJ pl (fam4 (Sv cy sa g h0 κ ζ L (sPk P ac to o0) dl δ))))) : va_W).Perm (wJ (uSC (sa o0) (g o0 1) (g o0 2) (g o0 3) (g o0 4) (dl o0)) (wJ (uLO (g o0 2) (h0 o0 4) (h0 o0 0) (L o0)) (wJ (uLO (g o0 3) (h0 o0 5) (h0 o0 2) ((sPk P ac to o0) o0)) (wJ (uDN cy (g o0 4) (δ o0)) (wJ (Kw cy (g o0 1) (fun j => g o0 (10 + j)) (κ o0) (ζ o0)) (wJ (uVP vo sv hm nt nw np nc) (wJ (uSV cy sv sa) (wJ (Aw ac an ak ap ab td) (wJ (La cy (h0 o0 0) (h0 o0 1) (L o0)) (wJ (La cy (h0 o0 2) (h0 o0 3) ((sPk P ac to o0) o0)) (wJ (oth4 (Sv cy sa g h0 κ ζ L (sPk P ac to o0) dl δ) o0) pl))))))))))) := vp_swap (u := fam4 (Sv cy sa g h0 κ ζ L (sPk P ac to o0) dl δ)) (u2 := wJ (uSC (sa o0) (g o0 1) (g o0 2) (g o0 3) (g o0 4) (dl o0)) (wJ (uLO (g o0 2) (h0 o0 4) (h0 o0 0) (L o0)) (wJ (uLO (g o0 3) (h0 o0 5) (h0 o0 2) ((sPk P ac to o0) o0)) (wJ (uDN cy (g o0 4) (δ o0)) (wJ (Kw cy (g o0 1) (fun j => g o0 (10 + j)) (κ o0) (ζ o0)) (wJ (La cy (h0 o0 0) (h0 o0 1) (L o0)) (wJ (La cy (h0 o0 2) (h0 o0 3) ((sPk P ac to o0) o0)) (oth4 (Sv cy sa g h0 κ ζ L (sPk P ac to o0) dl δ) o0)))))))) (r := wJ (uVP vo sv hm nt nw np nc) (wJ (uSV cy sv sa) (wJ (Aw ac an ak ap ab td) pl))) (vp_pc (fun n9 hn9 h90 => by simp only [wJ, hn9, h90, Nat.add_zero, Nat.zero_add] <;> ac_rfl)) ((fam4_foc (Sv cy sa g h0 κ ζ L (sPk P ac to o0) dl δ) (by omega)).trans (show (wJ (wJ (uSC (sa o0) (g o0 1) (g o0 2) (g o0 3) (g o0 4) (dl o0)) (wJ (uLO (g o0 2) (h0 o0 4) (h0 o0 0) (L o0)) (wJ (uLO (g o0 3) (h0 o0 5) (h0 o0 2) ((sPk P ac to o0) o0)) (wJ (uDN cy (g o0 4) (δ o0)) (wJ (Kw cy (g o0 1) (fun j => g o0 (10 + j)) (κ o0) (ζ o0)) (wJ (La cy (h0 o0 0) (h0 o0 1) (L o0)) (La cy (h0 o0 2) (h0 o0 3) ((sPk P ac to o0) o0)))))))) (oth4 (Sv cy sa g h0 κ ζ L (sPk P ac to o0) dl δ) o0) : va_W).Perm (wJ (uSC (sa o0) (g o0 1) (g o0 2) (g o0 3) (g o0 4) (dl o0)) (wJ (uLO (g o0 2) (h0 o0 4) (h0 o0 0) (L o0)) (wJ (uLO (g o0 3) (h0 o0 5) (h0 o0 2) ((sPk P ac to o0) o0)) (wJ (uDN cy (g o0 4) (δ o0)) (wJ (Kw cy (g o0 1) (fun j => g o0 (10 + j)) (κ o0) (ζ o0)) (wJ (La cy (h0 o0 0) (h0 o0 1) (L o0)) (wJ (La cy (h0 o0 2) (h0 o0 3) ((sPk P ac to o0) o0)) (oth4 (Sv cy sa g h0 κ ζ L (sPk P ac to o0) dl δ) o0)))))))) from (vp_pc (fun n9 hn9 h90 => by simp only [wJ, hn9, h90, Nat.add_zero, Nat.zero_add] <;> ac_rfl)))) (vp_pc (fun n9 hn9 h90 => by simp only [wJ, hn9, h90, Nat.add_zero, Nat.zero_add] <;> ac_rfl))
          have hP : va_P D vwCl (wJ (uSC (sa o0) (g o0 1) (g o0 2) (g o0 3) (g o0 4) (dl o0)) (wJ (uLO (g o0 2) (h0 o0 4) (h0 o0 0) (L o0)) (wJ (uLO (g o0 3) (h0 o0 5) (h0 o0 2) ((sPk P ac to o0) o0)) (wJ (uDN cy (g o0 4) (δ o0)) (wJ (Kw cy (g o0 1) (fun j => g o0 (10 + j)) (κ o0) (ζ o0)) (wJ (uVP vo sv hm nt nw np nc) (wJ (uSV cy sv sa) (wJ (Aw ac an ak ap ab td) (wJ (La cy (h0 o0 0) (h0 o0 1) (L o0)) (wJ (La cy (h0 o0 2) (h0 o0 3) ((sPk P ac to o0) o0)) (wJ (oth4 (Sv cy sa g h0 κ ζ L (sPk P ac to o0) dl δ) o0) pl))))))))))) H := vp_perm hP hp7
          have hD : va_D A0 (wJ (uSC (sa o0) (g o0 1) (g o0 2) (g o0 3) (g o0 4) (dl o0)) (wJ (uLO (g o0 2) (h0 o0 4) (h0 o0 0) (L o0)) (wJ (uLO (g o0 3) (h0 o0 5) (h0 o0 2) ((sPk P ac to o0) o0)) (wJ (uDN cy (g o0 4) (δ o0)) (wJ (Kw cy (g o0 1) (fun j => g o0 (10 + j)) (κ o0) (ζ o0)) (wJ (uVP vo sv hm nt nw np nc) (wJ (uSV cy sv sa) (wJ (Aw ac an ak ap ab td) (wJ (La cy (h0 o0 0) (h0 o0 1) (L o0)) (wJ (La cy (h0 o0 2) (h0 o0 3) ((sPk P ac to o0) o0)) (wJ (oth4 (Sv cy sa g h0 κ ζ L (sPk P ac to o0) dl δ) o0) pl))))))))))) := vd_perm hp7 hD
          refine va_get (D := D) (ci := 4) (v := .ref (g o0 3)) (C := RX3) (T := TX3) (N := 5) hx hb hts hin_RX3 hown hE.1 hP 0 rfl rfl 2 (by decide) (hts (.fieldLink RX4 170 "Villagepost$Server" "packets" "Ljava/util/ArrayList;") (by decide +kernel)) (fun _ h9 => h9) rfl dX4_send_21 ?_
          refine lv_aload_n hx hb dX4_send_24 rfl (lv_at hl 1 rfl) ?_
          have hp9 : (wJ (uSC (sa o0) (g o0 1) (g o0 2) (g o0 3) (g o0 4) (dl o0)) (wJ (uLO (g o0 2) (h0 o0 4) (h0 o0 0) (L o0)) (wJ (uLO (g o0 3) (h0 o0 5) (h0 o0 2) ((sPk P ac to o0) o0)) (wJ (uDN cy (g o0 4) (δ o0)) (wJ (Kw cy (g o0 1) (fun j => g o0 (10 + j)) (κ o0) (ζ o0)) (wJ (uVP vo sv hm nt nw np nc) (wJ (uSV cy sv sa) (wJ (Aw ac an ak ap ab td) (wJ (La cy (h0 o0 0) (h0 o0 1) (L o0)) (wJ (La cy (h0 o0 2) (h0 o0 3) ((sPk P ac to o0) o0)) (wJ (oth4 (Sv cy sa g h0 κ ζ L (sPk P ac to o0) dl δ) o0) pl)))))))))) : va_W).Perm (wJ (wJ (uLO (g o0 3) (h0 o0 5) (h0 o0 2) ((sPk P ac to o0) o0)) (wJ (La cy (h0 o0 2) (h0 o0 3) ((sPk P ac to o0) o0)) (wJ (Aw ac an ak ap ab td) pl))) (wJ (uSC (sa o0) (g o0 1) (g o0 2) (g o0 3) (g o0 4) (dl o0)) (wJ (uLO (g o0 2) (h0 o0 4) (h0 o0 0) (L o0)) (wJ (uDN cy (g o0 4) (δ o0)) (wJ (Kw cy (g o0 1) (fun j => g o0 (10 + j)) (κ o0) (ζ o0)) (wJ (uVP vo sv hm nt nw np nc) (wJ (uSV cy sv sa) (wJ (La cy (h0 o0 0) (h0 o0 1) (L o0)) (oth4 (Sv cy sa g h0 κ ζ L (sPk P ac to o0) dl δ) o0))))))))) := (vp_pc (fun n9 hn9 h90 => by simp only [wJ, hn9, h90, Nat.add_zero, Nat.zero_add] <;> ac_rfl))
          refine vj_calli (va_runV (As := [.ref ac]) (rest := []) ⟨hx, hb, hml, hown, hts⟩ (kJx4a65c_add_9ea2d l D cy H.size e0 mi (g o0 3) (h0 o0 5) (h0 o0 2) (h0 o0 3) ((sPk P ac to o0) o0) (Aw ac an ak ap ab td ++ pl) 1 (RX0, TX0, 5) ac rfl (by decide +kernel) vq_el1 (hk o0 (by omega)).2 (by rw [sPk_ge P ac to o0 (Nat.le_refl _)]; exact hpn o0 (by omega)) (by rw [sPk_ge P ac to o0 (Nat.le_refl _)]; exact (hel o0 (by omega)).2)) (cwV 1 hts gX4_send_Jx4a65c_add_9ea2d rfl rfl rfl (by decide +kernel) ⟨Nat.le_of_ble_eq_true rfl, Nat.le_of_ble_eq_true rfl⟩) (vh_P.preV hE hF hZ hS (vj_free (vd_perm hp9 hD) hS hA) hP 2 rfl rfl (vp_app.mp (vp_perm hP hp9)).1 (vd_app.mp (vd_perm hp9 hD)).1) rfl rfl hl.1 rfl (lv_room (Nat.le_of_ble_eq_true rfl)) dX4_send_25 ⟨by show o0 + 1 ≤ 4; omega, by show 1234 * o0 + 1234 ≤ 4936; omega⟩) hP hD hS hA hp9 (fun r u3 H locs ⟨hr, hu9⟩ hP hD hS => ?_)
          have hu9 : vl_ok e0 u3.1 u3.2 ((sPk P ac to o0) o0 ++ [ac]) := hu9
          subst hr
          have hp7 : (wJ (wJ (uLO (g o0 3) (h0 o0 5 + 1) u3.1 ((sPk P ac to o0) o0 ++ [ac])) (wJ (La cy u3.1 u3.2 ((sPk P ac to o0) o0 ++ [ac])) (wJ (Aw ac an ak ap ab td) pl))) (wJ (uSC (sa o0) (g o0 1) (g o0 2) (g o0 3) (g o0 4) (dl o0)) (wJ (uLO (g o0 2) (h0 o0 4) (h0 o0 0) (L o0)) (wJ (uDN cy (g o0 4) (δ o0)) (wJ (Kw cy (g o0 1) (fun j => g o0 (10 + j)) (κ o0) (ζ o0)) (wJ (uVP vo sv hm nt nw np nc) (wJ (uSV cy sv sa) (wJ (La cy (h0 o0 0) (h0 o0 1) (L o0)) (oth4 (Sv cy sa g h0 κ ζ L (sPk P ac to o0) dl δ) o0)))))))) : va_W).Perm (wJ (uLO (g o0 3) (h0 o0 5 + 1) u3.1 ((sPk P ac to o0) o0 ++ [ac])) (wJ (Aw ac an ak ap ab td) (wJ (uSC (sa o0) (g o0 1) (g o0 2) (g o0 3) (g o0 4) (dl o0)) (wJ (uLO (g o0 2) (h0 o0 4) (h0 o0 0) (L o0)) (wJ (uDN cy (g o0 4) (δ o0)) (wJ (Kw cy (g o0 1) (fun j => g o0 (10 + j)) (κ o0) (ζ o0)) (wJ (uVP vo sv hm nt nw np nc) (wJ (uSV cy sv sa) (wJ (La cy u3.1 u3.2 ((sPk P ac to o0) o0 ++ [ac])) (wJ pl (wJ (La cy (h0 o0 0) (h0 o0 1) (L o0)) (oth4 (Sv cy sa g h0 κ ζ L (sPk P ac to o0) dl δ) o0)))))))))))) := (vp_pc (fun n9 hn9 h90 => by simp only [wJ, hn9, h90, Nat.add_zero, Nat.zero_add] <;> ac_rfl))
          have hP : va_P D vwCl (wJ (uLO (g o0 3) (h0 o0 5 + 1) u3.1 ((sPk P ac to o0) o0 ++ [ac])) (wJ (Aw ac an ak ap ab td) (wJ (uSC (sa o0) (g o0 1) (g o0 2) (g o0 3) (g o0 4) (dl o0)) (wJ (uLO (g o0 2) (h0 o0 4) (h0 o0 0) (L o0)) (wJ (uDN cy (g o0 4) (δ o0)) (wJ (Kw cy (g o0 1) (fun j => g o0 (10 + j)) (κ o0) (ζ o0)) (wJ (uVP vo sv hm nt nw np nc) (wJ (uSV cy sv sa) (wJ (La cy u3.1 u3.2 ((sPk P ac to o0) o0 ++ [ac])) (wJ pl (wJ (La cy (h0 o0 0) (h0 o0 1) (L o0)) (oth4 (Sv cy sa g h0 κ ζ L (sPk P ac to o0) dl δ) o0)))))))))))) H := vp_perm hP hp7
          have hD : va_D A0 (wJ (uLO (g o0 3) (h0 o0 5 + 1) u3.1 ((sPk P ac to o0) o0 ++ [ac])) (wJ (Aw ac an ak ap ab td) (wJ (uSC (sa o0) (g o0 1) (g o0 2) (g o0 3) (g o0 4) (dl o0)) (wJ (uLO (g o0 2) (h0 o0 4) (h0 o0 0) (L o0)) (wJ (uDN cy (g o0 4) (δ o0)) (wJ (Kw cy (g o0 1) (fun j => g o0 (10 + j)) (κ o0) (ζ o0)) (wJ (uVP vo sv hm nt nw np nc) (wJ (uSV cy sv sa) (wJ (La cy u3.1 u3.2 ((sPk P ac to o0) o0 ++ [ac])) (wJ pl (wJ (La cy (h0 o0 0) (h0 o0 1) (L o0)) (oth4 (Sv cy sa g h0 κ ζ L (sPk P ac to o0) dl δ) o0)))))))))))) := vd_perm hp7 hD
          refine lv_pop hx hb dX4_send_28 rfl ?_
          have hp7 : (wJ (uLO (g o0 3) (h0 o0 5 + 1) u3.1 ((sPk P ac to o0) o0 ++ [ac])) (wJ (Aw ac an ak ap ab td) (wJ (uSC (sa o0) (g o0 1) (g o0 2) (g o0 3) (g o0 4) (dl o0)) (wJ (uLO (g o0 2) (h0 o0 4) (h0 o0 0) (L o0)) (wJ (uDN cy (g o0 4) (δ o0)) (wJ (Kw cy (g o0 1) (fun j => g o0 (10 + j)) (κ o0) (ζ o0)) (wJ (uVP vo sv hm nt nw np nc) (wJ (uSV cy sv sa) (wJ (La cy u3.1 u3.2 ((sPk P ac to o0) o0 ++ [ac])) (wJ pl (wJ (La cy (h0 o0 0) (h0 o0 1) (L o0)) (oth4 (Sv cy sa g h0 κ ζ L (sPk P ac to o0) dl δ) o0))))))))))) : va_W).Perm (wJ (Aw ac an ak ap ab td) (wJ (uVP vo sv hm nt nw np nc) (wJ (uSV cy sv sa) (wJ (fam4 (Sv cy sa g (va_up h0 o0 (vq_hP (h0 o0) u3)) κ ζ L (va_up (sPk P ac to o0) o0 (sPk P ac to o0 o0 ++ [ac])) dl δ)) pl)))) := vp_swap (u := wJ (uSC (sa o0) (g o0 1) (g o0 2) (g o0 3) (g o0 4) (dl o0)) (wJ (uLO (g o0 2) (h0 o0 4) (h0 o0 0) (L o0)) (wJ (uLO (g o0 3) (h0 o0 5 + 1) u3.1 ((sPk P ac to o0) o0 ++ [ac])) (wJ (uDN cy (g o0 4) (δ o0)) (wJ (Kw cy (g o0 1) (fun j => g o0 (10 + j)) (κ o0) (ζ o0)) (wJ (La cy (h0 o0 0) (h0 o0 1) (L o0)) (wJ (La cy u3.1 u3.2 ((sPk P ac to o0) o0 ++ [ac])) (oth4 (Sv cy sa g h0 κ ζ L (sPk P ac to o0) dl δ) o0)))))))) (u2 := fam4 (Sv cy sa g (va_up h0 o0 (vq_hP (h0 o0) u3)) κ ζ L (va_up (sPk P ac to o0) o0 (sPk P ac to o0 o0 ++ [ac])) dl δ)) (r := wJ (Aw ac an ak ap ab td) (wJ (uVP vo sv hm nt nw np nc) (wJ (uSV cy sv sa) pl))) (vp_pc (fun n9 hn9 h90 => by simp only [wJ, hn9, h90, Nat.add_zero, Nat.zero_add] <;> ac_rfl)) ((show (wJ (uSC (sa o0) (g o0 1) (g o0 2) (g o0 3) (g o0 4) (dl o0)) (wJ (uLO (g o0 2) (h0 o0 4) (h0 o0 0) (L o0)) (wJ (uLO (g o0 3) (h0 o0 5 + 1) u3.1 ((sPk P ac to o0) o0 ++ [ac])) (wJ (uDN cy (g o0 4) (δ o0)) (wJ (Kw cy (g o0 1) (fun j => g o0 (10 + j)) (κ o0) (ζ o0)) (wJ (La cy (h0 o0 0) (h0 o0 1) (L o0)) (wJ (La cy u3.1 u3.2 ((sPk P ac to o0) o0 ++ [ac])) (oth4 (Sv cy sa g h0 κ ζ L (sPk P ac to o0) dl δ) o0))))))) : va_W).Perm (wJ (wJ (uSC (sa o0) (g o0 1) (g o0 2) (g o0 3) (g o0 4) (dl o0)) (wJ (uLO (g o0 2) (h0 o0 4) (h0 o0 0) (L o0)) (wJ (uLO (g o0 3) (h0 o0 5 + 1) u3.1 ((sPk P ac to o0) o0 ++ [ac])) (wJ (uDN cy (g o0 4) (δ o0)) (wJ (Kw cy (g o0 1) (fun j => g o0 (10 + j)) (κ o0) (ζ o0)) (wJ (La cy (h0 o0 0) (h0 o0 1) (L o0)) (La cy u3.1 u3.2 ((sPk P ac to o0) o0 ++ [ac])))))))) (oth4 (Sv cy sa g h0 κ ζ L (sPk P ac to o0) dl δ) o0)) from (vp_pc (fun n9 hn9 h90 => by simp only [wJ, hn9, h90, Nat.add_zero, Nat.zero_add] <;> ac_rfl))).trans (fam4_unf (F := Sv cy sa g h0 κ ζ L (sPk P ac to o0) dl δ) (G := Sv cy sa g (va_up h0 o0 (vq_hP (h0 o0) u3)) κ ζ L (va_up (sPk P ac to o0) o0 (sPk P ac to o0 o0 ++ [ac])) dl δ) (i := o0) (by omega) (fun j9 hj9 => by simp only [Sv, va_up_ne _ _ hj9]) (show (Sv cy sa g (va_up h0 o0 (vq_hP (h0 o0) u3)) κ ζ L (va_up (sPk P ac to o0) o0 (sPk P ac to o0 o0 ++ [ac])) dl δ) o0 = (wJ (uSC (sa o0) (g o0 1) (g o0 2) (g o0 3) (g o0 4) (dl o0)) (wJ (uLO (g o0 2) (h0 o0 4) (h0 o0 0) (L o0)) (wJ (uLO (g o0 3) (h0 o0 5 + 1) u3.1 ((sPk P ac to o0) o0 ++ [ac])) (wJ (uDN cy (g o0 4) (δ o0)) (wJ (Kw cy (g o0 1) (fun j => g o0 (10 + j)) (κ o0) (ζ o0)) (wJ (La cy (h0 o0 0) (h0 o0 1) (L o0)) (La cy u3.1 u3.2 ((sPk P ac to o0) o0 ++ [ac]))))))) : va_W) from by first | (simp only [Sv, va_up_self]; done) | (simp only [Sv, va_up_self]; rfl) | rfl))) (vp_pc (fun n9 hn9 h90 => by simp only [wJ, hn9, h90, Nat.add_zero, Nat.zero_add] <;> ac_rfl))
          have hP : va_P D vwCl (wJ (Aw ac an ak ap ab td) (wJ (uVP vo sv hm nt nw np nc) (wJ (uSV cy sv sa) (wJ (fam4 (Sv cy sa g (va_up h0 o0 (vq_hP (h0 o0) u3)) κ ζ L (va_up (sPk P ac to o0) o0 (sPk P ac to o0 o0 ++ [ac])) dl δ)) pl)))) H := vp_perm hP hp7
          have hD : va_D A0 (wJ (Aw ac an ak ap ab td) (wJ (uVP vo sv hm nt nw np nc) (wJ (uSV cy sv sa) (wJ (fam4 (Sv cy sa g (va_up h0 o0 (vq_hP (h0 o0) u3)) κ ζ L (va_up (sPk P ac to o0) o0 (sPk P ac to o0 o0 ++ [ac])) dl δ)) pl)))) := vd_perm hp7 hD
          refine lv_iinc (v := (nI (o0 + 1))) (lv' := [(3, .int (nI (o0 + 1))), (0, .ref vo), (1, .ref ac), (2, .int to)]) hx hb dX4_send_29 hl (k := 3) rfl (by first | rfl | exact nI_add _ _ | decide) (by decide) rfl (fun ls hl => ?_)
          have hl : lv_has ls 4 [(0, .ref vo), (1, .ref ac), (2, .int to), (3, .int (nI (o0 + 1)))] := lv_sub hl [1, 2, 3, 0] rfl
          refine lv_goto (tgt := 2) hx hb dX4_send_32 (by decide) ?_
          have hp7 : (wJ (Aw ac an ak ap ab td) (wJ (uVP vo sv hm nt nw np nc) (wJ (uSV cy sv sa) (wJ (fam4 (Sv cy sa g (va_up h0 o0 (vq_hP (h0 o0) u3)) κ ζ L (va_up (sPk P ac to o0) o0 (sPk P ac to o0 o0 ++ [ac])) dl δ)) pl))) : va_W).Perm (wJ (uVP vo sv hm nt nw np nc) (wJ (uSV cy sv sa) (wJ (Aw ac an ak ap ab td) (wJ pl (fam4 (Sv cy sa g (va_up h0 o0 (vq_hP (h0 o0) u3)) κ ζ L (va_up (sPk P ac to o0) o0 (sPk P ac to o0 o0 ++ [ac])) dl δ)))))) := (vp_pc (fun n9 hn9 h90 => by simp only [wJ, hn9, h90, Nat.add_zero, Nat.zero_add] <;> ac_rfl))
          have hP : va_P D vwCl (wJ (uVP vo sv hm nt nw np nc) (wJ (uSV cy sv sa) (wJ (Aw ac an ak ap ab td) (wJ pl (fam4 (Sv cy sa g (va_up h0 o0 (vq_hP (h0 o0) u3)) κ ζ L (va_up (sPk P ac to o0) o0 (sPk P ac to o0 o0 ++ [ac])) dl δ)))))) H := vp_perm hP hp7
          have hD : va_D A0 (wJ (uVP vo sv hm nt nw np nc) (wJ (uSV cy sv sa) (wJ (Aw ac an ak ap ab td) (wJ pl (fam4 (Sv cy sa g (va_up h0 o0 (vq_hP (h0 o0) u3)) κ ζ L (va_up (sPk P ac to o0) o0 (sPk P ac to o0 o0 ++ [ac])) dl δ)))))) := vd_perm hp7 hD
          have eW : (wJ (uVP vo sv hm nt nw np nc) (wJ (uSV cy sv sa) (wJ (Aw ac an ak ap ab td) (wJ pl (fam4 (Sv cy sa g (va_up h0 o0 (vq_hP (h0 o0) u3)) κ ζ L (va_up (sPk P ac to o0) o0 (sPk P ac to o0 o0 ++ [ac])) dl δ))))) : va_W) = wJ (uVP vo sv hm nt nw np nc) (wJ (uSV cy sv sa) (wJ (Aw ac an ak ap ab td) (wJ pl (fam4 (Sv cy sa g (va_up h0 o0 (vq_hP (h0 o0) u3)) κ ζ L (sPk P ac to (o0 + 1)) dl δ))))) := by rw [sPk_y c2]
          have hP : va_P D vwCl (wJ (uVP vo sv hm nt nw np nc) (wJ (uSV cy sv sa) (wJ (Aw ac an ak ap ab td) (wJ pl (fam4 (Sv cy sa g (va_up h0 o0 (vq_hP (h0 o0) u3)) κ ζ L (sPk P ac to (o0 + 1)) dl δ)))))) H := by rw [← eW]; exact hP
          have hD : va_D A0 (wJ (uVP vo sv hm nt nw np nc) (wJ (uSV cy sv sa) (wJ (Aw ac an ak ap ab td) (wJ pl (fam4 (Sv cy sa g (va_up h0 o0 (vq_hP (h0 o0) u3)) κ ζ L (sPk P ac to (o0 + 1)) dl δ)))))) := by rw [← eW]; exact hD
          refine W.widen (k := (o0 + 1)) (n := 1234 * (o0 + 1)) (by omega) (by omega) ?_
          exact ih (o0 + 1) (va_up h0 o0 (vq_hP (h0 o0) u3)) (by omega) (by omega) (by rw [sPk_y c2]; exact vq_okP hk hu9) _ _ hP hD hS ls (by exact lv_sub hl [0, 1, 2, 3] rfl)
  refine lv_iconst (v := 0) hx hb dX4_send_0 (by decide) ?_
  refine lv_istore_n (lv' := [(3, .int 0), (0, .ref vo), (1, .ref ac), (2, .int to)]) hx hb dX4_send_1 rfl hl (by decide) rfl (fun ls hl => ?_)
  have hl : lv_has ls 4 [(0, .ref vo), (1, .ref ac), (2, .int to), (3, .int 0)] := lv_sub hl [1, 2, 3, 0] rfl
  have q4 : ((nI 0) : Int32) = 0 := by first | rfl | simp []
  have eW : (wJ (uVP vo sv hm nt nw np nc) (wJ (uSV cy sv sa) (wJ (Aw ac an ak ap ab td) (wJ pl (fam4 (Sv cy sa g h κ ζ L P dl δ))))) : va_W) = wJ (uVP vo sv hm nt nw np nc) (wJ (uSV cy sv sa) (wJ (Aw ac an ak ap ab td) (wJ pl (fam4 (Sv cy sa g h κ ζ L (sPk P ac to 0) dl δ))))) := by first | rfl | simp []
  have hP : va_P D vwCl (wJ (uVP vo sv hm nt nw np nc) (wJ (uSV cy sv sa) (wJ (Aw ac an ak ap ab td) (wJ pl (fam4 (Sv cy sa g h κ ζ L (sPk P ac to 0) dl δ)))))) s.heap := by rw [← eW]; exact hP
  have hD : va_D A0 (wJ (uVP vo sv hm nt nw np nc) (wJ (uSV cy sv sa) (wJ (Aw ac an ak ap ab td) (wJ pl (fam4 (Sv cy sa g h κ ζ L (sPk P ac to 0) dl δ)))))) := by rw [← eW]; exact hD
  refine W.widen (k := 0) (n := 1234 * 0) (by omega) (by omega) ?_
  exact L2 ((4 - 0) + 1) 0 h (by omega) (by omega) (hok) _ _ hP hD hS ls (by rw [q4]; exact lv_sub hl [0, 1, 2, 3] rfl)

set_option maxHeartbeats 4000000 in
set_option maxRecDepth 100000 in
theorem kX4_sendReplyOn (l : Launch) (D : va_G) (cy : Nat → ClassId) (sz e0 mi : Nat) (vo : Nat) (sv : Nat) (hm : Nat) (nt : Nat) (nw : Nat) (np : Nat) (nc : Nat) (χ : Nat → Nat) (sa : Nat → Nat) (no : Nat) (au : Nat) (kd : Int32) (na : Int32) (we : Int32) (so : Int32) (ac : Nat) (an : Nat) (ak : Nat) (ap : Nat) (ab : Nat) (td : Int32) (pl : va_W) (g : Nat → Nat → Nat) (h : Nat → Nat → Nat) (κ : Nat → Nat → Nat → Int32) (ζ : Nat → Nat → Nat → Int64) (L : Nat → List Nat) (P : Nat → List Nat) (dl : Nat → Nat) (δ : Nat → Nat → Int32) (si : Nat) (t : Nat) (hnp : np ≤ 10) (hau : au < 10) (ht : t < 10) (hsi : si < 4) (hχ : ∀ j, j < 10 → χ j < 4) (hok : vq_ok e0 h L P) (hel : vq_el L P (Aw ac an ak ap ab td ++ pl)) (hpn : vq_len P 1023) : Met l yX4_sendReplyOn wsX4_sendReplyOn ({ frames := 8, cells := 4, slots := 4936, locals := 221 }) (vh_P D cy e0 mi [.ref vo, .int (nI si), .ref ac, .ref no] sz (wJ (uVP vo sv hm nt nw np nc) (wJ (uHM cy hm χ) (wJ (uSV cy sv sa) (wJ (Ow no au kd na (nI t) we so) (wJ (Aw ac an ak ap ab td) (wJ pl (fam4 (Sv cy sa g h κ ζ L P dl δ))))))))) (vg_Qv (S := Nat → Nat → Nat) D sz (wJ (uVP vo sv hm nt nw np nc) (wJ (uHM cy hm χ) (wJ (uSV cy sv sa) (wJ (Ow no au kd na (nI t) we so) (wJ (Aw ac an ak ap ab td) (wJ pl (fam4 (Sv cy sa g h κ ζ L P dl δ)))))))) (fun u => vq_ok e0 u L (sPk P ac (rTo2 χ (κ si) t si au np we) 4)) (fun u => wJ (uVP vo sv hm nt nw np nc) (wJ (uHM cy hm χ) (wJ (uSV cy sv sa) (wJ (Ow no au kd na (nI t) (rWe χ si au we (rTo2 χ (κ si) t si au np we)) (rSo χ si au so (rTo2 χ (κ si) t si au np we))) (wJ (Aw ac an ak ap ab td) (wJ pl (fam4 (Sv cy sa g u κ ζ L (sPk P ac (rTo2 χ (κ si) t si au np we) 4) dl δ))))))))) 4 4936 (va_A (wJ (uVP vo sv hm nt nw np nc) (wJ (uHM cy hm χ) (wJ (uSV cy sv sa) (wJ (Ow no au kd na (nI t) we so) (wJ (Aw ac an ak ap ab td) (wJ pl (fam4 (Sv cy sa g h κ ζ L P dl δ)))))))) sz) := by
  refine Met.ofW (cc := cX4_sendReplyOn) (maxL := 6) (ret := none) (by decide) rfl ?_
  intro p e s m args below meth c s₁ BB hml hv
  obtain ⟨rfl, hsz, hP, hE, hD0, hF, hZ⟩ := hv
  have hx := BB.exec
  have hb := BB.bytes
  have hr := BB.returns
  have hts := atoms_spec (ws := wsX4_sendReplyOn) BB.pre
  have hown : s.vm.findClass RX4 = some m.cls := findClass_of_methodNamed BB.named
  have hlocks := BB.notSynchronized
  subst hsz
  have hD := hD0.self (sz := s.heap.size)
  have hA : ∀ q : Nat, s.heap.size ≤ q → (va_A (wJ (uVP vo sv hm nt nw np nc) (wJ (uHM cy hm χ) (wJ (uSV cy sv sa) (wJ (Ow no au kd na (nI t) we so) (wJ (Aw ac an ak ap ab td) (wJ pl (fam4 (Sv cy sa g h κ ζ L P dl δ)))))))) s.heap.size) q := fun q h => Or.inr h
  have hS : va_S (va_A (wJ (uVP vo sv hm nt nw np nc) (wJ (uHM cy hm χ) (wJ (uSV cy sv sa) (wJ (Ow no au kd na (nI t) we so) (wJ (Aw ac an ak ap ab td) (wJ pl (fam4 (Sv cy sa g h κ ζ L P dl δ)))))))) s.heap.size) s.heap s.heap [] := va_S.rf
  obtain ⟨A0, hA0⟩ : ∃ A0 : Nat → Prop, A0 = va_A (wJ (uVP vo sv hm nt nw np nc) (wJ (uHM cy hm χ) (wJ (uSV cy sv sa) (wJ (Ow no au kd na (nI t) we so) (wJ (Aw ac an ak ap ab td) (wJ pl (fam4 (Sv cy sa g h κ ζ L P dl δ)))))))) s.heap.size := ⟨_, rfl⟩
  rw [← hA0]
  rw [← hA0] at hD hA hS hZ
  have hin_RX2 : ∀ w ∈ u_ws RX2 TX2 6, w ∈ wsX4_sendReplyOn := by decide +kernel
  have hin_RX3 : ∀ w ∈ u_ws RX3 TX3 5, w ∈ wsX4_sendReplyOn := by decide +kernel
  have hin_RX4 : ∀ w ∈ u_ws RX4 TX4 6, w ∈ wsX4_sendReplyOn := by decide +kernel
  have hl := lv_entry ([.ref vo, .int (nI si), .ref ac, .ref no]) (n := 6) (Nat.le_of_ble_eq_true rfl)
  rw [lg_entry_eq]
  generalize (lg_sl ([.ref vo, .int (nI si), .ref ac, .ref no]) ++ List.replicate (6 - (lg_sl ([.ref vo, .int (nI si), .ref ac, .ref no])).length) Slot.unset).toArray = ls at hl ⊢
  have hl : lv_has ls 6 [(0, .ref vo), (1, .int (nI si)), (2, .ref ac), (3, .ref no)] := hl
  have hχa := hχ au hau
  refine lv_aload_n hx hb dX4_sendReplyOn_0 rfl (lv_at hl 0 rfl) ?_
  refine va_get (D := D) (ci := 5) (v := .ref sv) (C := RX4) (T := TX4) (N := 6) hx hb hts hin_RX4 hown hE.1 hP 0 rfl rfl 0 (by decide) (hts (.fieldLink RX4 10 "Villagepost" "servers" "[LVillagepost$Server;") (by decide +kernel)) (fun _ h9 => h9) rfl dX4_sendReplyOn_1 ?_
  refine lv_iload_n hx hb dX4_sendReplyOn_4 rfl (lv_at hl 1 rfl) ?_
  refine vg_aldq hx hb hE.1 hP 2 3 rfl rfl (j := si) (by omega) (by decide) (v := (sa si)) rfl dX4_sendReplyOn_5 ?_
  have hp7 : (wJ (uVP vo sv hm nt nw np nc) (wJ (uHM cy hm χ) (wJ (uSV cy sv sa) (wJ (Ow no au kd na (nI t) we so) (wJ (Aw ac an ak ap ab td) (wJ pl (fam4 (Sv cy sa g h κ ζ L P dl δ))))))) : va_W).Perm (wJ (uSC (sa si) (g si 1) (g si 2) (g si 3) (g si 4) (dl si)) (wJ (uLO (g si 2) (h si 4) (h si 0) (L si)) (wJ (uLO (g si 3) (h si 5) (h si 2) (P si)) (wJ (uDN cy (g si 4) (δ si)) (wJ (Kw cy (g si 1) (fun j => g si (10 + j)) (κ si) (ζ si)) (wJ (uVP vo sv hm nt nw np nc) (wJ (uHM cy hm χ) (wJ (uSV cy sv sa) (wJ (Ow no au kd na (nI t) we so) (wJ (Aw ac an ak ap ab td) (wJ (La cy (h si 0) (h si 1) (L si)) (wJ (La cy (h si 2) (h si 3) (P si)) (wJ (oth4 (Sv cy sa g h κ ζ L P dl δ) si) pl))))))))))))) := vp_swap (u := fam4 (Sv cy sa g h κ ζ L P dl δ)) (u2 := wJ (uSC (sa si) (g si 1) (g si 2) (g si 3) (g si 4) (dl si)) (wJ (uLO (g si 2) (h si 4) (h si 0) (L si)) (wJ (uLO (g si 3) (h si 5) (h si 2) (P si)) (wJ (uDN cy (g si 4) (δ si)) (wJ (Kw cy (g si 1) (fun j => g si (10 + j)) (κ si) (ζ si)) (wJ (La cy (h si 0) (h si 1) (L si)) (wJ (La cy (h si 2) (h si 3) (P si)) (oth4 (Sv cy sa g h κ ζ L P dl δ) si)))))))) (r := wJ (uVP vo sv hm nt nw np nc) (wJ (uHM cy hm χ) (wJ (uSV cy sv sa) (wJ (Ow no au kd na (nI t) we so) (wJ (Aw ac an ak ap ab td) pl))))) (vp_pc (fun n9 hn9 h90 => by simp only [wJ, hn9, h90, Nat.add_zero, Nat.zero_add] <;> ac_rfl)) ((fam4_foc (Sv cy sa g h κ ζ L P dl δ) hsi).trans (show (wJ (wJ (uSC (sa si) (g si 1) (g si 2) (g si 3) (g si 4) (dl si)) (wJ (uLO (g si 2) (h si 4) (h si 0) (L si)) (wJ (uLO (g si 3) (h si 5) (h si 2) (P si)) (wJ (uDN cy (g si 4) (δ si)) (wJ (Kw cy (g si 1) (fun j => g si (10 + j)) (κ si) (ζ si)) (wJ (La cy (h si 0) (h si 1) (L si)) (La cy (h si 2) (h si 3) (P si)))))))) (oth4 (Sv cy sa g h κ ζ L P dl δ) si) : va_W).Perm (wJ (uSC (sa si) (g si 1) (g si 2) (g si 3) (g si 4) (dl si)) (wJ (uLO (g si 2) (h si 4) (h si 0) (L si)) (wJ (uLO (g si 3) (h si 5) (h si 2) (P si)) (wJ (uDN cy (g si 4) (δ si)) (wJ (Kw cy (g si 1) (fun j => g si (10 + j)) (κ si) (ζ si)) (wJ (La cy (h si 0) (h si 1) (L si)) (wJ (La cy (h si 2) (h si 3) (P si)) (oth4 (Sv cy sa g h κ ζ L P dl δ) si)))))))) from (vp_pc (fun n9 hn9 h90 => by simp only [wJ, hn9, h90, Nat.add_zero, Nat.zero_add] <;> ac_rfl)))) (vp_pc (fun n9 hn9 h90 => by simp only [wJ, hn9, h90, Nat.add_zero, Nat.zero_add] <;> ac_rfl))
  have hP : va_P D vwCl (wJ (uSC (sa si) (g si 1) (g si 2) (g si 3) (g si 4) (dl si)) (wJ (uLO (g si 2) (h si 4) (h si 0) (L si)) (wJ (uLO (g si 3) (h si 5) (h si 2) (P si)) (wJ (uDN cy (g si 4) (δ si)) (wJ (Kw cy (g si 1) (fun j => g si (10 + j)) (κ si) (ζ si)) (wJ (uVP vo sv hm nt nw np nc) (wJ (uHM cy hm χ) (wJ (uSV cy sv sa) (wJ (Ow no au kd na (nI t) we so) (wJ (Aw ac an ak ap ab td) (wJ (La cy (h si 0) (h si 1) (L si)) (wJ (La cy (h si 2) (h si 3) (P si)) (wJ (oth4 (Sv cy sa g h κ ζ L P dl δ) si) pl))))))))))))) s.heap := vp_perm hP hp7
  have hD : va_D A0 (wJ (uSC (sa si) (g si 1) (g si 2) (g si 3) (g si 4) (dl si)) (wJ (uLO (g si 2) (h si 4) (h si 0) (L si)) (wJ (uLO (g si 3) (h si 5) (h si 2) (P si)) (wJ (uDN cy (g si 4) (δ si)) (wJ (Kw cy (g si 1) (fun j => g si (10 + j)) (κ si) (ζ si)) (wJ (uVP vo sv hm nt nw np nc) (wJ (uHM cy hm χ) (wJ (uSV cy sv sa) (wJ (Ow no au kd na (nI t) we so) (wJ (Aw ac an ak ap ab td) (wJ (La cy (h si 0) (h si 1) (L si)) (wJ (La cy (h si 2) (h si 3) (P si)) (wJ (oth4 (Sv cy sa g h κ ζ L P dl δ) si) pl))))))))))))) := vd_perm hp7 hD
  refine va_get (D := D) (ci := 4) (v := .ref (g si 1)) (C := RX3) (T := TX3) (N := 5) hx hb hts hin_RX3 hown hE.1 hP 0 rfl rfl 0 (by decide) (hts (.fieldLink RX4 184 "Villagepost$Server" "knowledge" "LVillagepost$Knowledge;") (by decide +kernel)) (fun _ h9 => h9) rfl dX4_sendReplyOn_6 ?_
  refine lv_aload_n hx hb dX4_sendReplyOn_9 rfl (lv_at hl 3 rfl) ?_
  refine va_get (D := D) (ci := 3) (v := .int (nI t)) (C := RX2) (T := TX2) (N := 6) hx hb hts hin_RX2 hown hE.1 hP 13 rfl rfl 3 (by decide) (hts (.fieldLink RX4 243 "Villagepost$Note" "thread" "I") (by decide +kernel)) (fun _ h9 => h9) rfl dX4_sendReplyOn_10 ?_
  have hp9 : (wJ (uSC (sa si) (g si 1) (g si 2) (g si 3) (g si 4) (dl si)) (wJ (uLO (g si 2) (h si 4) (h si 0) (L si)) (wJ (uLO (g si 3) (h si 5) (h si 2) (P si)) (wJ (uDN cy (g si 4) (δ si)) (wJ (Kw cy (g si 1) (fun j => g si (10 + j)) (κ si) (ζ si)) (wJ (uVP vo sv hm nt nw np nc) (wJ (uHM cy hm χ) (wJ (uSV cy sv sa) (wJ (Ow no au kd na (nI t) we so) (wJ (Aw ac an ak ap ab td) (wJ (La cy (h si 0) (h si 1) (L si)) (wJ (La cy (h si 2) (h si 3) (P si)) (wJ (oth4 (Sv cy sa g h κ ζ L P dl δ) si) pl)))))))))))) : va_W).Perm (wJ (Kw cy (g si 1) (fun j => g si (10 + j)) (κ si) (ζ si)) (wJ (uSC (sa si) (g si 1) (g si 2) (g si 3) (g si 4) (dl si)) (wJ (uLO (g si 2) (h si 4) (h si 0) (L si)) (wJ (uLO (g si 3) (h si 5) (h si 2) (P si)) (wJ (uDN cy (g si 4) (δ si)) (wJ (uVP vo sv hm nt nw np nc) (wJ (uHM cy hm χ) (wJ (uSV cy sv sa) (wJ (Ow no au kd na (nI t) we so) (wJ (Aw ac an ak ap ab td) (wJ (La cy (h si 0) (h si 1) (L si)) (wJ (La cy (h si 2) (h si 3) (P si)) (wJ (oth4 (Sv cy sa g h κ ζ L P dl δ) si) pl))))))))))))) := (vp_pc (fun n9 hn9 h90 => by simp only [wJ, hn9, h90, Nat.add_zero, Nat.zero_add] <;> ac_rfl))
  refine vj_calli (va_runV (As := [.int (nI t)]) (rest := []) ⟨hx, hb, hml, hown, hts⟩ (kX1_followersOf l D cy s.heap.size (g si 1) (fun j => g si (10 + j)) (κ si) (ζ si) t (by omega)) (cwV 1 hts gX4_sendReplyOn_X1_followersOf rfl rfl rfl (by decide +kernel) ⟨Nat.le_of_ble_eq_true rfl, Nat.le_of_ble_eq_true rfl⟩) (vg_P.preV hE hP 4 rfl rfl (vp_app.mp (vp_perm hP hp9)).1 (vd_app.mp (vd_perm hp9 hD)).1) rfl rfl hl.1 rfl (lv_room (Nat.le_of_ble_eq_true rfl)) dX4_sendReplyOn_13 ⟨Nat.le_of_ble_eq_true rfl, Nat.le_of_ble_eq_true rfl⟩) hP hD hS hA hp9 (fun r _ H locs hr hP hD hS => ?_)
  subst hr
  have hp7 : (wJ (Kw cy (g si 1) (fun j => g si (10 + j)) (κ si) (ζ si)) (wJ (uSC (sa si) (g si 1) (g si 2) (g si 3) (g si 4) (dl si)) (wJ (uLO (g si 2) (h si 4) (h si 0) (L si)) (wJ (uLO (g si 3) (h si 5) (h si 2) (P si)) (wJ (uDN cy (g si 4) (δ si)) (wJ (uVP vo sv hm nt nw np nc) (wJ (uHM cy hm χ) (wJ (uSV cy sv sa) (wJ (Ow no au kd na (nI t) we so) (wJ (Aw ac an ak ap ab td) (wJ (La cy (h si 0) (h si 1) (L si)) (wJ (La cy (h si 2) (h si 3) (P si)) (wJ (oth4 (Sv cy sa g h κ ζ L P dl δ) si) pl)))))))))))) : va_W).Perm (wJ (Kw cy (g si 1) (fun j => g si (10 + j)) (κ si) (ζ si)) (wJ (uSC (sa si) (g si 1) (g si 2) (g si 3) (g si 4) (dl si)) (wJ (uLO (g si 2) (h si 4) (h si 0) (L si)) (wJ (uLO (g si 3) (h si 5) (h si 2) (P si)) (wJ (uDN cy (g si 4) (δ si)) (wJ (uVP vo sv hm nt nw np nc) (wJ (uHM cy hm χ) (wJ (uSV cy sv sa) (wJ (Ow no au kd na (nI t) we so) (wJ (Aw ac an ak ap ab td) (wJ (La cy (h si 0) (h si 1) (L si)) (wJ (La cy (h si 2) (h si 3) (P si)) (wJ (oth4 (Sv cy sa g h κ ζ L P dl δ) si) pl))))))))))))) := (List.Perm.refl _)
  have hP : va_P D vwCl (wJ (Kw cy (g si 1) (fun j => g si (10 + j)) (κ si) (ζ si)) (wJ (uSC (sa si) (g si 1) (g si 2) (g si 3) (g si 4) (dl si)) (wJ (uLO (g si 2) (h si 4) (h si 0) (L si)) (wJ (uLO (g si 3) (h si 5) (h si 2) (P si)) (wJ (uDN cy (g si 4) (δ si)) (wJ (uVP vo sv hm nt nw np nc) (wJ (uHM cy hm χ) (wJ (uSV cy sv sa) (wJ (Ow no au kd na (nI t) we so) (wJ (Aw ac an ak ap ab td) (wJ (La cy (h si 0) (h si 1) (L si)) (wJ (La cy (h si 2) (h si 3) (P si)) (wJ (oth4 (Sv cy sa g h κ ζ L P dl δ) si) pl))))))))))))) H := vp_perm hP hp7
  have hD : va_D A0 (wJ (Kw cy (g si 1) (fun j => g si (10 + j)) (κ si) (ζ si)) (wJ (uSC (sa si) (g si 1) (g si 2) (g si 3) (g si 4) (dl si)) (wJ (uLO (g si 2) (h si 4) (h si 0) (L si)) (wJ (uLO (g si 3) (h si 5) (h si 2) (P si)) (wJ (uDN cy (g si 4) (δ si)) (wJ (uVP vo sv hm nt nw np nc) (wJ (uHM cy hm χ) (wJ (uSV cy sv sa) (wJ (Ow no au kd na (nI t) we so) (wJ (Aw ac an ak ap ab td) (wJ (La cy (h si 0) (h si 1) (L si)) (wJ (La cy (h si 2) (h si 3) (P si)) (wJ (oth4 (Sv cy sa g h κ ζ L P dl δ) si) pl))))))))))))) := vd_perm hp7 hD
  have hp7 : (wJ (Kw cy (g si 1) (fun j => g si (10 + j)) (κ si) (ζ si)) (wJ (uSC (sa si) (g si 1) (g si 2) (g si 3) (g si 4) (dl si)) (wJ (uLO (g si 2) (h si 4) (h si 0) (L si)) (wJ (uLO (g si 3) (h si 5) (h si 2) (P si)) (wJ (uDN cy (g si 4) (δ si)) (wJ (uVP vo sv hm nt nw np nc) (wJ (uHM cy hm χ) (wJ (uSV cy sv sa) (wJ (Ow no au kd na (nI t) we so) (wJ (Aw ac an ak ap ab td) (wJ (La cy (h si 0) (h si 1) (L si)) (wJ (La cy (h si 2) (h si 3) (P si)) (wJ (oth4 (Sv cy sa g h κ ζ L P dl δ) si) pl)))))))))))) : va_W).Perm (wJ (uVP vo sv hm nt nw np nc) (wJ (uHM cy hm χ) (wJ (uSV cy sv sa) (wJ (Ow no au kd na (nI t) we so) (wJ (Aw ac an ak ap ab td) (wJ (fam4 (Sv cy sa g h κ ζ L P dl δ)) pl)))))) := vp_swap (u := wJ (uSC (sa si) (g si 1) (g si 2) (g si 3) (g si 4) (dl si)) (wJ (uLO (g si 2) (h si 4) (h si 0) (L si)) (wJ (uLO (g si 3) (h si 5) (h si 2) (P si)) (wJ (uDN cy (g si 4) (δ si)) (wJ (Kw cy (g si 1) (fun j => g si (10 + j)) (κ si) (ζ si)) (wJ (La cy (h si 0) (h si 1) (L si)) (wJ (La cy (h si 2) (h si 3) (P si)) (oth4 (Sv cy sa g h κ ζ L P dl δ) si)))))))) (u2 := fam4 (Sv cy sa g h κ ζ L P dl δ)) (r := wJ (uVP vo sv hm nt nw np nc) (wJ (uHM cy hm χ) (wJ (uSV cy sv sa) (wJ (Ow no au kd na (nI t) we so) (wJ (Aw ac an ak ap ab td) pl))))) (vp_pc (fun n9 hn9 h90 => by simp only [wJ, hn9, h90, Nat.add_zero, Nat.zero_add] <;> ac_rfl)) ((show (wJ (uSC (sa si) (g si 1) (g si 2) (g si 3) (g si 4) (dl si)) (wJ (uLO (g si 2) (h si 4) (h si 0) (L si)) (wJ (uLO (g si 3) (h si 5) (h si 2) (P si)) (wJ (uDN cy (g si 4) (δ si)) (wJ (Kw cy (g si 1) (fun j => g si (10 + j)) (κ si) (ζ si)) (wJ (La cy (h si 0) (h si 1) (L si)) (wJ (La cy (h si 2) (h si 3) (P si)) (oth4 (Sv cy sa g h κ ζ L P dl δ) si))))))) : va_W).Perm (wJ (wJ (uSC (sa si) (g si 1) (g si 2) (g si 3) (g si 4) (dl si)) (wJ (uLO (g si 2) (h si 4) (h si 0) (L si)) (wJ (uLO (g si 3) (h si 5) (h si 2) (P si)) (wJ (uDN cy (g si 4) (δ si)) (wJ (Kw cy (g si 1) (fun j => g si (10 + j)) (κ si) (ζ si)) (wJ (La cy (h si 0) (h si 1) (L si)) (La cy (h si 2) (h si 3) (P si)))))))) (oth4 (Sv cy sa g h κ ζ L P dl δ) si)) from (vp_pc (fun n9 hn9 h90 => by simp only [wJ, hn9, h90, Nat.add_zero, Nat.zero_add] <;> ac_rfl))).trans (fam4_unf (F := Sv cy sa g h κ ζ L P dl δ) (G := Sv cy sa g h κ ζ L P dl δ) (i := si) hsi (fun j9 hj9 => by simp only [Sv, va_up_ne _ _ hj9]) (show (Sv cy sa g h κ ζ L P dl δ) si = (wJ (uSC (sa si) (g si 1) (g si 2) (g si 3) (g si 4) (dl si)) (wJ (uLO (g si 2) (h si 4) (h si 0) (L si)) (wJ (uLO (g si 3) (h si 5) (h si 2) (P si)) (wJ (uDN cy (g si 4) (δ si)) (wJ (Kw cy (g si 1) (fun j => g si (10 + j)) (κ si) (ζ si)) (wJ (La cy (h si 0) (h si 1) (L si)) (La cy (h si 2) (h si 3) (P si))))))) : va_W) from by first | (simp only [Sv, va_up_self]; done) | (simp only [Sv, va_up_self]; rfl) | rfl))) (vp_pc (fun n9 hn9 h90 => by simp only [wJ, hn9, h90, Nat.add_zero, Nat.zero_add] <;> ac_rfl))
  have hP : va_P D vwCl (wJ (uVP vo sv hm nt nw np nc) (wJ (uHM cy hm χ) (wJ (uSV cy sv sa) (wJ (Ow no au kd na (nI t) we so) (wJ (Aw ac an ak ap ab td) (wJ (fam4 (Sv cy sa g h κ ζ L P dl δ)) pl)))))) H := vp_perm hP hp7
  have hD : va_D A0 (wJ (uVP vo sv hm nt nw np nc) (wJ (uHM cy hm χ) (wJ (uSV cy sv sa) (wJ (Ow no au kd na (nI t) we so) (wJ (Aw ac an ak ap ab td) (wJ (fam4 (Sv cy sa g h κ ζ L P dl δ)) pl)))))) := vd_perm hp7 hD
  refine lv_istore (lv' := [(4, .int (kFo (κ si) t 10)), (0, .ref vo), (1, .int (nI si)), (2, .ref ac), (3, .ref no)]) hx hb dX4_sendReplyOn_16 hl (by decide) rfl (fun ls hl => ?_)
  have hl : lv_has ls 6 [(0, .ref vo), (1, .int (nI si)), (2, .ref ac), (3, .ref no), (4, .int (kFo (κ si) t 10))] := lv_sub hl [1, 2, 3, 4, 0] rfl
  refine lv_aload_n hx hb dX4_sendReplyOn_18 rfl (lv_at hl 0 rfl) ?_
  refine lv_iload hx hb dX4_sendReplyOn_19 (lv_at hl 4 rfl) ?_
  have hp9 : (wJ (uVP vo sv hm nt nw np nc) (wJ (uHM cy hm χ) (wJ (uSV cy sv sa) (wJ (Ow no au kd na (nI t) we so) (wJ (Aw ac an ak ap ab td) (wJ (fam4 (Sv cy sa g h κ ζ L P dl δ)) pl))))) : va_W).Perm (wJ (wJ (uVP vo sv hm nt nw np nc) (uHM cy hm χ)) (wJ (uSV cy sv sa) (wJ (Ow no au kd na (nI t) we so) (wJ (Aw ac an ak ap ab td) (wJ (fam4 (Sv cy sa g h κ ζ L P dl δ)) pl))))) := (vp_pc (fun n9 hn9 h90 => by simp only [wJ, hn9, h90, Nat.add_zero, Nat.zero_add] <;> ac_rfl))
  refine vj_calli (va_runV (As := [.int (kFo (κ si) t 10)]) (rest := []) ⟨hx, hb, hml, hown, hts⟩ (kX4_homesOf l D cy H.size vo sv hm nt nw np (nI nc) χ (kFo (κ si) t 10) (hnp)) (cwV 1 hts gX4_sendReplyOn_X4_homesOf rfl rfl rfl (by decide +kernel) ⟨Nat.le_of_ble_eq_true rfl, Nat.le_of_ble_eq_true rfl⟩) (vg_P.preV hE hP 0 rfl rfl (vp_app.mp (vp_perm hP hp9)).1 (vd_app.mp (vd_perm hp9 hD)).1) rfl rfl hl.1 rfl (lv_room (Nat.le_of_ble_eq_true rfl)) dX4_sendReplyOn_21 ⟨Nat.le_of_ble_eq_true rfl, Nat.le_of_ble_eq_true rfl⟩) hP hD hS hA hp9 (fun r _ H locs hr hP hD hS => ?_)
  subst hr
  have hp7 : (wJ (wJ (uVP vo sv hm nt nw np nc) (uHM cy hm χ)) (wJ (uSV cy sv sa) (wJ (Ow no au kd na (nI t) we so) (wJ (Aw ac an ak ap ab td) (wJ (fam4 (Sv cy sa g h κ ζ L P dl δ)) pl)))) : va_W).Perm (wJ (uVP vo sv hm nt nw np nc) (wJ (uHM cy hm χ) (wJ (uSV cy sv sa) (wJ (Ow no au kd na (nI t) we so) (wJ (Aw ac an ak ap ab td) (wJ (fam4 (Sv cy sa g h κ ζ L P dl δ)) pl)))))) := (vp_pc (fun n9 hn9 h90 => by simp only [wJ, hn9, h90, Nat.add_zero, Nat.zero_add] <;> ac_rfl))
  have hP : va_P D vwCl (wJ (uVP vo sv hm nt nw np nc) (wJ (uHM cy hm χ) (wJ (uSV cy sv sa) (wJ (Ow no au kd na (nI t) we so) (wJ (Aw ac an ak ap ab td) (wJ (fam4 (Sv cy sa g h κ ζ L P dl δ)) pl)))))) H := vp_perm hP hp7
  have hD : va_D A0 (wJ (uVP vo sv hm nt nw np nc) (wJ (uHM cy hm χ) (wJ (uSV cy sv sa) (wJ (Ow no au kd na (nI t) we so) (wJ (Aw ac an ak ap ab td) (wJ (fam4 (Sv cy sa g h κ ζ L P dl δ)) pl)))))) := vd_perm hp7 hD
  refine lv_iload_n hx hb dX4_sendReplyOn_24 rfl (lv_at hl 1 rfl) ?_
  refine vg_calliP (va_runS (As := [.int (nI si)]) (rest := [.int (kHo χ (kFo (κ si) t 10) np)]) ⟨hx, hb, hml, hown, hts⟩ (kX4_bit l D cy H.size si) (va_cwS 1 hts gX4_sendReplyOn_X4_bit rfl rfl rfl (by decide +kernel) ⟨Nat.le_of_ble_eq_true rfl, Nat.le_of_ble_eq_true rfl⟩) (vg_P.preS hE vg_P0 (A := fun _ => True) vg_D0) rfl rfl hl.1 rfl (lv_room (Nat.le_of_ble_eq_true rfl)) dX4_sendReplyOn_25 ⟨Nat.le_of_ble_eq_true rfl, Nat.le_of_ble_eq_true rfl⟩) hP hD hS hA (fun r _ H locs hr hP hD hS => ?_)
  subst hr
  refine lv_iconst (v := (-1)) hx hb dX4_sendReplyOn_28 (by decide) ?_
  refine lv_ixor hx hb dX4_sendReplyOn_29 ?_
  refine lv_iand hx hb dX4_sendReplyOn_30 ?_
  refine lv_aload_n hx hb dX4_sendReplyOn_31 rfl (lv_at hl 0 rfl) ?_
  refine lv_aload_n hx hb dX4_sendReplyOn_32 rfl (lv_at hl 3 rfl) ?_
  refine va_get (D := D) (ci := 3) (v := .int (nI au)) (C := RX2) (T := TX2) (N := 6) hx hb hts hin_RX2 hown hE.1 hP 3 rfl rfl 0 (by decide) (hts (.fieldLink RX4 142 "Villagepost$Note" "author" "I") (by decide +kernel)) (fun _ h9 => h9) rfl dX4_sendReplyOn_33 ?_
  have hp9 : (wJ (uVP vo sv hm nt nw np nc) (wJ (uHM cy hm χ) (wJ (uSV cy sv sa) (wJ (Ow no au kd na (nI t) we so) (wJ (Aw ac an ak ap ab td) (wJ (fam4 (Sv cy sa g h κ ζ L P dl δ)) pl))))) : va_W).Perm (wJ (wJ (uVP vo sv hm nt nw np nc) (uHM cy hm χ)) (wJ (uSV cy sv sa) (wJ (Ow no au kd na (nI t) we so) (wJ (Aw ac an ak ap ab td) (wJ (fam4 (Sv cy sa g h κ ζ L P dl δ)) pl))))) := (vp_pc (fun n9 hn9 h90 => by simp only [wJ, hn9, h90, Nat.add_zero, Nat.zero_add] <;> ac_rfl))
  refine vj_calli (va_runV (As := [.int (nI au)]) (rest := [.int ((kHo χ (kFo (κ si) t 10) np) &&& ((kBit si) ^^^ (-1)))]) ⟨hx, hb, hml, hown, hts⟩ (kX4_homeOf l D cy H.size vo sv hm nt nw (nI np) (nI nc) χ au (by omega)) (cwV 1 hts gX4_sendReplyOn_X4_homeOf rfl rfl rfl (by decide +kernel) ⟨Nat.le_of_ble_eq_true rfl, Nat.le_of_ble_eq_true rfl⟩) (vg_P.preV hE hP 0 rfl rfl (vp_app.mp (vp_perm hP hp9)).1 (vd_app.mp (vd_perm hp9 hD)).1) rfl rfl hl.1 rfl (lv_room (Nat.le_of_ble_eq_true rfl)) dX4_sendReplyOn_36 ⟨Nat.le_of_ble_eq_true rfl, Nat.le_of_ble_eq_true rfl⟩) hP hD hS hA hp9 (fun r _ H locs hr hP hD hS => ?_)
  subst hr
  have hp7 : (wJ (wJ (uVP vo sv hm nt nw np nc) (uHM cy hm χ)) (wJ (uSV cy sv sa) (wJ (Ow no au kd na (nI t) we so) (wJ (Aw ac an ak ap ab td) (wJ (fam4 (Sv cy sa g h κ ζ L P dl δ)) pl)))) : va_W).Perm (wJ (uVP vo sv hm nt nw np nc) (wJ (uHM cy hm χ) (wJ (uSV cy sv sa) (wJ (Ow no au kd na (nI t) we so) (wJ (Aw ac an ak ap ab td) (wJ (fam4 (Sv cy sa g h κ ζ L P dl δ)) pl)))))) := (vp_pc (fun n9 hn9 h90 => by simp only [wJ, hn9, h90, Nat.add_zero, Nat.zero_add] <;> ac_rfl))
  have hP : va_P D vwCl (wJ (uVP vo sv hm nt nw np nc) (wJ (uHM cy hm χ) (wJ (uSV cy sv sa) (wJ (Ow no au kd na (nI t) we so) (wJ (Aw ac an ak ap ab td) (wJ (fam4 (Sv cy sa g h κ ζ L P dl δ)) pl)))))) H := vp_perm hP hp7
  have hD : va_D A0 (wJ (uVP vo sv hm nt nw np nc) (wJ (uHM cy hm χ) (wJ (uSV cy sv sa) (wJ (Ow no au kd na (nI t) we so) (wJ (Aw ac an ak ap ab td) (wJ (fam4 (Sv cy sa g h κ ζ L P dl δ)) pl)))))) := vd_perm hp7 hD
  refine lv_iconst (v := (-1)) hx hb dX4_sendReplyOn_39 (by decide) ?_
  refine lv_ixor hx hb dX4_sendReplyOn_40 ?_
  refine lv_iand hx hb dX4_sendReplyOn_41 ?_
  refine lv_istore (lv' := [(5, .int (((kHo χ (kFo (κ si) t 10) np) &&& ((kBit si) ^^^ (-1))) &&& ((kBit (χ au)) ^^^ (-1)))), (0, .ref vo), (1, .int (nI si)), (2, .ref ac), (3, .ref no), (4, .int (kFo (κ si) t 10))]) hx hb dX4_sendReplyOn_42 hl (by decide) rfl (fun ls hl => ?_)
  have hl : lv_has ls 6 [(0, .ref vo), (1, .int (nI si)), (2, .ref ac), (3, .ref no), (4, .int (kFo (κ si) t 10)), (5, .int (((kHo χ (kFo (κ si) t 10) np) &&& ((kBit si) ^^^ (-1))) &&& ((kBit (χ au)) ^^^ (-1))))] := lv_sub hl [1, 2, 3, 4, 5, 0] rfl
  refine lv_aload_n hx hb dX4_sendReplyOn_44 rfl (lv_at hl 0 rfl) ?_
  refine va_get (D := D) (ci := 5) (v := .ref hm) (C := RX4) (T := TX4) (N := 6) hx hb hts hin_RX4 hown hE.1 hP 0 rfl rfl 1 (by decide) (hts (.fieldLink RX4 16 "Villagepost" "homes" "[I") (by decide +kernel)) (fun _ h9 => h9) rfl dX4_sendReplyOn_45 ?_
  refine lv_aload_n hx hb dX4_sendReplyOn_48 rfl (lv_at hl 3 rfl) ?_
  refine va_get (D := D) (ci := 3) (v := .int (nI au)) (C := RX2) (T := TX2) (N := 6) hx hb hts hin_RX2 hown hE.1 hP 3 rfl rfl 0 (by decide) (hts (.fieldLink RX4 142 "Villagepost$Note" "author" "I") (by decide +kernel)) (fun _ h9 => h9) rfl dX4_sendReplyOn_49 ?_
  refine vg_iald hx hb hE.1 hP 1 0 rfl rfl (f := fun j => nI (χ j)) (j := au) (by omega) (by decide) dX4_sendReplyOn_52 ?_
  refine vg_tp (nI (χ au)) (rfl) ?_
  refine lv_iload_n hx hb dX4_sendReplyOn_53 rfl (lv_at hl 1 rfl) ?_
  refine lv_icmp_ne (tgt := 82) hx hb dX4_sendReplyOn_54 (by decide) (fun r1 => ?_) (fun r1 => ?_)
  · have c1 : ¬ χ au = si := fun q => r1 ((nI_eq (a := χ au) (b := si) (by omega) (by omega)).mpr q)
    refine lv_aload_n hx hb dX4_sendReplyOn_82 rfl (lv_at hl 3 rfl) ?_
    refine lv_iload hx hb dX4_sendReplyOn_83 (lv_at hl 5 rfl) ?_
    refine va_put (D := (D)) (ci := 3) (v := .int (((kHo χ (kFo (κ si) t 10) np) &&& ((kBit si) ^^^ (-1))) &&& ((kBit (χ au)) ^^^ (-1)))) (ty := .int) (C := RX2) (T := TX2) (N := 6) hx hb hts hin_RX2 tyX2 tyX2_ok nmX2 hown hE.1 hP hD hS 3 rfl rfl 5 (by decide) (hts (.fieldLink RX4 250 "Villagepost$Note" "sentOn" "I") (by decide +kernel)) (fun _ h9 => h9) rfl (by decide +kernel) rfl rfl (Nat.le_of_ble_eq_true rfl) dX4_sendReplyOn_85 (fun H locs hP hD hS => ?_)
    have hP : va_P D vwCl (wJ (uVP vo sv hm nt nw np nc) (wJ (uHM cy hm χ) (wJ (uSV cy sv sa) (wJ (Ow no au kd na (nI t) we (((kHo χ (kFo (κ si) t 10) np) &&& ((kBit si) ^^^ (-1))) &&& ((kBit (χ au)) ^^^ (-1)))) (wJ (Aw ac an ak ap ab td) (wJ (fam4 (Sv cy sa g h κ ζ L P dl δ)) pl)))))) H := hP
    have hD : va_D A0 (wJ (uVP vo sv hm nt nw np nc) (wJ (uHM cy hm χ) (wJ (uSV cy sv sa) (wJ (Ow no au kd na (nI t) we (((kHo χ (kFo (κ si) t 10) np) &&& ((kBit si) ^^^ (-1))) &&& ((kBit (χ au)) ^^^ (-1)))) (wJ (Aw ac an ak ap ab td) (wJ (fam4 (Sv cy sa g h κ ζ L P dl δ)) pl)))))) := hD
    refine lv_aload_n hx hb dX4_sendReplyOn_88 rfl (lv_at hl 0 rfl) ?_
    refine lv_aload_n hx hb dX4_sendReplyOn_89 rfl (lv_at hl 2 rfl) ?_
    have eR : rTo2 χ (κ si) t si au np we = (((kHo χ (kFo (κ si) t 10) np) &&& ((kBit si) ^^^ (-1))) &&& ((kBit (χ au)) ^^^ (-1))) := by rw [rTo2, if_neg c1]; rfl
    have eQ : rWe χ si au we (rTo2 χ (κ si) t si au np we) = we := by rw [rWe, if_neg c1]
    have eS : rSo χ si au so (rTo2 χ (κ si) t si au np we) = (((kHo χ (kFo (κ si) t 10) np) &&& ((kBit si) ^^^ (-1))) &&& ((kBit (χ au)) ^^^ (-1))) := by rw [rSo, if_neg c1, eR]
    have hP : va_P D vwCl (wJ (uVP vo sv hm nt nw np nc) (wJ (uHM cy hm χ) (wJ (uSV cy sv sa) (wJ (Ow no au kd na (nI t) (rWe χ si au we (rTo2 χ (κ si) t si au np we)) (rSo χ si au so (rTo2 χ (κ si) t si au np we))) (wJ (Aw ac an ak ap ab td) (wJ (fam4 (Sv cy sa g h κ ζ L P dl δ)) pl)))))) H := by rw [eQ, eS]; exact hP
    have hD : va_D A0 (wJ (uVP vo sv hm nt nw np nc) (wJ (uHM cy hm χ) (wJ (uSV cy sv sa) (wJ (Ow no au kd na (nI t) (rWe χ si au we (rTo2 χ (κ si) t si au np we)) (rSo χ si au so (rTo2 χ (κ si) t si au np we))) (wJ (Aw ac an ak ap ab td) (wJ (fam4 (Sv cy sa g h κ ζ L P dl δ)) pl)))))) := by rw [eQ, eS]; exact hD
    refine lv_iload hx hb dX4_sendReplyOn_90 (lv_at hl 5 rfl) ?_
    refine vg_tp (rTo2 χ (κ si) t si au np we) eR.symm ?_
    have hp9 : (wJ (uVP vo sv hm nt nw np nc) (wJ (uHM cy hm χ) (wJ (uSV cy sv sa) (wJ (Ow no au kd na (nI t) (rWe χ si au we (rTo2 χ (κ si) t si au np we)) (rSo χ si au so (rTo2 χ (κ si) t si au np we))) (wJ (Aw ac an ak ap ab td) (wJ (fam4 (Sv cy sa g h κ ζ L P dl δ)) pl))))) : va_W).Perm (wJ (wJ (uVP vo sv hm nt nw np nc) (wJ (uSV cy sv sa) (wJ (Aw ac an ak ap ab td) (wJ pl (fam4 (Sv cy sa g h κ ζ L P dl δ)))))) (wJ (uHM cy hm χ) (Ow no au kd na (nI t) (rWe χ si au we (rTo2 χ (κ si) t si au np we)) (rSo χ si au so (rTo2 χ (κ si) t si au np we))))) := (vp_pc (fun n9 hn9 h90 => by simp only [wJ, hn9, h90, Nat.add_zero, Nat.zero_add] <;> ac_rfl))
    refine vj_callv (va_runV (As := [.ref ac, .int (rTo2 χ (κ si) t si au np we)]) (rest := []) ⟨hx, hb, hml, hown, hts⟩ (kX4_send l D cy H.size e0 mi vo sv hm nt nw np nc sa ac an ak ap ab td pl g h κ ζ L P dl δ (rTo2 χ (κ si) t si au np we) hok hel hpn) (cwV 2 hts gX4_sendReplyOn_X4_send rfl rfl rfl (by decide +kernel) ⟨Nat.le_of_ble_eq_true rfl, Nat.le_of_ble_eq_true rfl⟩) (vh_P.preV hE hF hZ hS (vj_free (vd_perm hp9 hD) hS hA) hP 0 rfl rfl (vp_app.mp (vp_perm hP hp9)).1 (vd_app.mp (vd_perm hp9 hD)).1) rfl rfl hl.1 rfl (lv_room (Nat.le_of_ble_eq_true rfl)) dX4_sendReplyOn_92 ⟨Nat.le_of_ble_eq_true rfl, Nat.le_of_ble_eq_true rfl⟩) hP hD hS hA hp9 (fun h2 H locs hk2 hP hD hS => ?_)
    have hk2 : vq_ok e0 h2 L (sPk P ac (rTo2 χ (κ si) t si au np we) 4) := hk2
    have hp7 : (wJ (wJ (uVP vo sv hm nt nw np nc) (wJ (uSV cy sv sa) (wJ (Aw ac an ak ap ab td) (wJ pl (fam4 (Sv cy sa g h2 κ ζ L (sPk P ac (rTo2 χ (κ si) t si au np we) 4) dl δ)))))) (wJ (uHM cy hm χ) (Ow no au kd na (nI t) (rWe χ si au we (rTo2 χ (κ si) t si au np we)) (rSo χ si au so (rTo2 χ (κ si) t si au np we)))) : va_W).Perm (wJ (uVP vo sv hm nt nw np nc) (wJ (uSV cy sv sa) (wJ (Aw ac an ak ap ab td) (wJ (uHM cy hm χ) (wJ (Ow no au kd na (nI t) (rWe χ si au we (rTo2 χ (κ si) t si au np we)) (rSo χ si au so (rTo2 χ (κ si) t si au np we))) (wJ pl (fam4 (Sv cy sa g h2 κ ζ L (sPk P ac (rTo2 χ (κ si) t si au np we) 4) dl δ)))))))) := (vp_pc (fun n9 hn9 h90 => by simp only [wJ, hn9, h90, Nat.add_zero, Nat.zero_add] <;> ac_rfl))
    have hP : va_P D vwCl (wJ (uVP vo sv hm nt nw np nc) (wJ (uSV cy sv sa) (wJ (Aw ac an ak ap ab td) (wJ (uHM cy hm χ) (wJ (Ow no au kd na (nI t) (rWe χ si au we (rTo2 χ (κ si) t si au np we)) (rSo χ si au so (rTo2 χ (κ si) t si au np we))) (wJ pl (fam4 (Sv cy sa g h2 κ ζ L (sPk P ac (rTo2 χ (κ si) t si au np we) 4) dl δ)))))))) H := vp_perm hP hp7
    have hD : va_D A0 (wJ (uVP vo sv hm nt nw np nc) (wJ (uSV cy sv sa) (wJ (Aw ac an ak ap ab td) (wJ (uHM cy hm χ) (wJ (Ow no au kd na (nI t) (rWe χ si au we (rTo2 χ (κ si) t si au np we)) (rSo χ si au so (rTo2 χ (κ si) t si au np we))) (wJ pl (fam4 (Sv cy sa g h2 κ ζ L (sPk P ac (rTo2 χ (κ si) t si au np we) 4) dl δ)))))))) := vd_perm hp7 hD
    have hp8 : (wJ (uVP vo sv hm nt nw np nc) (wJ (uSV cy sv sa) (wJ (Aw ac an ak ap ab td) (wJ (uHM cy hm χ) (wJ (Ow no au kd na (nI t) (rWe χ si au we (rTo2 χ (κ si) t si au np we)) (rSo χ si au so (rTo2 χ (κ si) t si au np we))) (wJ pl (fam4 (Sv cy sa g h2 κ ζ L (sPk P ac (rTo2 χ (κ si) t si au np we) 4) dl δ))))))) : va_W).Perm (wJ (uVP vo sv hm nt nw np nc) (wJ (uHM cy hm χ) (wJ (uSV cy sv sa) (wJ (Ow no au kd na (nI t) (rWe χ si au we (rTo2 χ (κ si) t si au np we)) (rSo χ si au so (rTo2 χ (κ si) t si au np we))) (wJ (Aw ac an ak ap ab td) (wJ pl (fam4 (Sv cy sa g h2 κ ζ L (sPk P ac (rTo2 χ (κ si) t si au np we) 4) dl δ)))))))) := (vp_pc (fun n9 hn9 h90 => by simp only [wJ, hn9, h90, Nat.add_zero, Nat.zero_add] <;> ac_rfl))
    have hP : va_P D vwCl (wJ (uVP vo sv hm nt nw np nc) (wJ (uHM cy hm χ) (wJ (uSV cy sv sa) (wJ (Ow no au kd na (nI t) (rWe χ si au we (rTo2 χ (κ si) t si au np we)) (rSo χ si au so (rTo2 χ (κ si) t si au np we))) (wJ (Aw ac an ak ap ab td) (wJ pl (fam4 (Sv cy sa g h2 κ ζ L (sPk P ac (rTo2 χ (κ si) t si au np we) 4) dl δ)))))))) H := vp_perm hP hp8
    have hD : va_D A0 (wJ (uVP vo sv hm nt nw np nc) (wJ (uHM cy hm χ) (wJ (uSV cy sv sa) (wJ (Ow no au kd na (nI t) (rWe χ si au we (rTo2 χ (κ si) t si au np we)) (rSo χ si au so (rTo2 χ (κ si) t si au np we))) (wJ (Aw ac an ak ap ab td) (wJ pl (fam4 (Sv cy sa g h2 κ ζ L (sPk P ac (rTo2 χ (κ si) t si au np we) 4) dl δ)))))))) := vd_perm hp8 hD
    subst hA0
    refine W.widen (k := 4) (n := 4936) (by omega) (by omega) ?_
    exact W.vret hx hb hr (fun t ht hW => ⟨⟨h2, rfl, hk2, (by rw [ht]; exact hP), hD⟩, hS.F ht⟩) hS.2.2 dX4_sendReplyOn_95
  · have c1 : χ au = si := (nI_eq (a := χ au) (b := si) (by omega) (by omega)).mp r1
    refine lv_iload hx hb dX4_sendReplyOn_57 (lv_at hl 5 rfl) ?_
    refine lv_aload_n hx hb dX4_sendReplyOn_59 rfl (lv_at hl 3 rfl) ?_
    refine va_get (D := D) (ci := 3) (v := .int we) (C := RX2) (T := TX2) (N := 6) hx hb hts hin_RX2 hown hE.1 hP 3 rfl rfl 4 (by decide) (hts (.fieldLink RX4 150 "Villagepost$Note" "went" "I") (by decide +kernel)) (fun _ h9 => h9) rfl dX4_sendReplyOn_60 ?_
    refine lv_iconst (v := (-1)) hx hb dX4_sendReplyOn_63 (by decide) ?_
    refine lv_ixor hx hb dX4_sendReplyOn_64 ?_
    refine lv_iand hx hb dX4_sendReplyOn_65 ?_
    refine lv_istore (lv' := [(5, .int ((((kHo χ (kFo (κ si) t 10) np) &&& ((kBit si) ^^^ (-1))) &&& ((kBit (χ au)) ^^^ (-1))) &&& (we ^^^ (-1)))), (0, .ref vo), (1, .int (nI si)), (2, .ref ac), (3, .ref no), (4, .int (kFo (κ si) t 10))]) hx hb dX4_sendReplyOn_66 hl (by decide) rfl (fun ls hl => ?_)
    have hl : lv_has ls 6 [(0, .ref vo), (1, .int (nI si)), (2, .ref ac), (3, .ref no), (4, .int (kFo (κ si) t 10)), (5, .int ((((kHo χ (kFo (κ si) t 10) np) &&& ((kBit si) ^^^ (-1))) &&& ((kBit (χ au)) ^^^ (-1))) &&& (we ^^^ (-1))))] := lv_sub hl [1, 2, 3, 4, 5, 0] rfl
    refine lv_aload_n hx hb dX4_sendReplyOn_68 rfl (lv_at hl 3 rfl) ?_
    refine lv_dup hx hb dX4_sendReplyOn_69 rfl ?_
    refine va_get (D := D) (ci := 3) (v := .int we) (C := RX2) (T := TX2) (N := 6) hx hb hts hin_RX2 hown hE.1 hP 3 rfl rfl 4 (by decide) (hts (.fieldLink RX4 150 "Villagepost$Note" "went" "I") (by decide +kernel)) (fun _ h9 => h9) rfl dX4_sendReplyOn_70 ?_
    refine lv_iload hx hb dX4_sendReplyOn_73 (lv_at hl 5 rfl) ?_
    refine lv_ior hx hb dX4_sendReplyOn_75 ?_
    refine va_put (D := (D)) (ci := 3) (v := .int (we ||| ((((kHo χ (kFo (κ si) t 10) np) &&& ((kBit si) ^^^ (-1))) &&& ((kBit (χ au)) ^^^ (-1))) &&& (we ^^^ (-1))))) (ty := .int) (C := RX2) (T := TX2) (N := 6) hx hb hts hin_RX2 tyX2 tyX2_ok nmX2 hown hE.1 hP hD hS 3 rfl rfl 4 (by decide) (hts (.fieldLink RX4 150 "Villagepost$Note" "went" "I") (by decide +kernel)) (fun _ h9 => h9) rfl (by decide +kernel) rfl rfl (Nat.le_of_ble_eq_true rfl) dX4_sendReplyOn_76 (fun H locs hP hD hS => ?_)
    have hP : va_P D vwCl (wJ (uVP vo sv hm nt nw np nc) (wJ (uHM cy hm χ) (wJ (uSV cy sv sa) (wJ (Ow no au kd na (nI t) (we ||| ((((kHo χ (kFo (κ si) t 10) np) &&& ((kBit si) ^^^ (-1))) &&& ((kBit (χ au)) ^^^ (-1))) &&& (we ^^^ (-1)))) so) (wJ (Aw ac an ak ap ab td) (wJ (fam4 (Sv cy sa g h κ ζ L P dl δ)) pl)))))) H := hP
    have hD : va_D A0 (wJ (uVP vo sv hm nt nw np nc) (wJ (uHM cy hm χ) (wJ (uSV cy sv sa) (wJ (Ow no au kd na (nI t) (we ||| ((((kHo χ (kFo (κ si) t 10) np) &&& ((kBit si) ^^^ (-1))) &&& ((kBit (χ au)) ^^^ (-1))) &&& (we ^^^ (-1)))) so) (wJ (Aw ac an ak ap ab td) (wJ (fam4 (Sv cy sa g h κ ζ L P dl δ)) pl)))))) := hD
    refine lv_goto (tgt := 88) hx hb dX4_sendReplyOn_79 (by decide) ?_
    refine lv_aload_n hx hb dX4_sendReplyOn_88 rfl (lv_at hl 0 rfl) ?_
    refine lv_aload_n hx hb dX4_sendReplyOn_89 rfl (lv_at hl 2 rfl) ?_
    have eR : rTo2 χ (κ si) t si au np we = ((((kHo χ (kFo (κ si) t 10) np) &&& ((kBit si) ^^^ (-1))) &&& ((kBit (χ au)) ^^^ (-1))) &&& (we ^^^ (-1))) := by rw [rTo2, if_pos c1]; rfl
    have eQ : rWe χ si au we (rTo2 χ (κ si) t si au np we) = (we ||| ((((kHo χ (kFo (κ si) t 10) np) &&& ((kBit si) ^^^ (-1))) &&& ((kBit (χ au)) ^^^ (-1))) &&& (we ^^^ (-1)))) := by rw [rWe, if_pos c1, eR]
    have eS : rSo χ si au so (rTo2 χ (κ si) t si au np we) = so := by rw [rSo, if_pos c1]
    have hP : va_P D vwCl (wJ (uVP vo sv hm nt nw np nc) (wJ (uHM cy hm χ) (wJ (uSV cy sv sa) (wJ (Ow no au kd na (nI t) (rWe χ si au we (rTo2 χ (κ si) t si au np we)) (rSo χ si au so (rTo2 χ (κ si) t si au np we))) (wJ (Aw ac an ak ap ab td) (wJ (fam4 (Sv cy sa g h κ ζ L P dl δ)) pl)))))) H := by rw [eQ, eS]; exact hP
    have hD : va_D A0 (wJ (uVP vo sv hm nt nw np nc) (wJ (uHM cy hm χ) (wJ (uSV cy sv sa) (wJ (Ow no au kd na (nI t) (rWe χ si au we (rTo2 χ (κ si) t si au np we)) (rSo χ si au so (rTo2 χ (κ si) t si au np we))) (wJ (Aw ac an ak ap ab td) (wJ (fam4 (Sv cy sa g h κ ζ L P dl δ)) pl)))))) := by rw [eQ, eS]; exact hD
    refine lv_iload hx hb dX4_sendReplyOn_90 (lv_at hl 5 rfl) ?_
    refine vg_tp (rTo2 χ (κ si) t si au np we) eR.symm ?_
    have hp9 : (wJ (uVP vo sv hm nt nw np nc) (wJ (uHM cy hm χ) (wJ (uSV cy sv sa) (wJ (Ow no au kd na (nI t) (rWe χ si au we (rTo2 χ (κ si) t si au np we)) (rSo χ si au so (rTo2 χ (κ si) t si au np we))) (wJ (Aw ac an ak ap ab td) (wJ (fam4 (Sv cy sa g h κ ζ L P dl δ)) pl))))) : va_W).Perm (wJ (wJ (uVP vo sv hm nt nw np nc) (wJ (uSV cy sv sa) (wJ (Aw ac an ak ap ab td) (wJ pl (fam4 (Sv cy sa g h κ ζ L P dl δ)))))) (wJ (uHM cy hm χ) (Ow no au kd na (nI t) (rWe χ si au we (rTo2 χ (κ si) t si au np we)) (rSo χ si au so (rTo2 χ (κ si) t si au np we))))) := (vp_pc (fun n9 hn9 h90 => by simp only [wJ, hn9, h90, Nat.add_zero, Nat.zero_add] <;> ac_rfl))
    refine vj_callv (va_runV (As := [.ref ac, .int (rTo2 χ (κ si) t si au np we)]) (rest := []) ⟨hx, hb, hml, hown, hts⟩ (kX4_send l D cy H.size e0 mi vo sv hm nt nw np nc sa ac an ak ap ab td pl g h κ ζ L P dl δ (rTo2 χ (κ si) t si au np we) hok hel hpn) (cwV 2 hts gX4_sendReplyOn_X4_send rfl rfl rfl (by decide +kernel) ⟨Nat.le_of_ble_eq_true rfl, Nat.le_of_ble_eq_true rfl⟩) (vh_P.preV hE hF hZ hS (vj_free (vd_perm hp9 hD) hS hA) hP 0 rfl rfl (vp_app.mp (vp_perm hP hp9)).1 (vd_app.mp (vd_perm hp9 hD)).1) rfl rfl hl.1 rfl (lv_room (Nat.le_of_ble_eq_true rfl)) dX4_sendReplyOn_92 ⟨Nat.le_of_ble_eq_true rfl, Nat.le_of_ble_eq_true rfl⟩) hP hD hS hA hp9 (fun h3 H locs hk3 hP hD hS => ?_)
    have hk3 : vq_ok e0 h3 L (sPk P ac (rTo2 χ (κ si) t si au np we) 4) := hk3
    have hp7 : (wJ (wJ (uVP vo sv hm nt nw np nc) (wJ (uSV cy sv sa) (wJ (Aw ac an ak ap ab td) (wJ pl (fam4 (Sv cy sa g h3 κ ζ L (sPk P ac (rTo2 χ (κ si) t si au np we) 4) dl δ)))))) (wJ (uHM cy hm χ) (Ow no au kd na (nI t) (rWe χ si au we (rTo2 χ (κ si) t si au np we)) (rSo χ si au so (rTo2 χ (κ si) t si au np we)))) : va_W).Perm (wJ (uVP vo sv hm nt nw np nc) (wJ (uSV cy sv sa) (wJ (Aw ac an ak ap ab td) (wJ (uHM cy hm χ) (wJ (Ow no au kd na (nI t) (rWe χ si au we (rTo2 χ (κ si) t si au np we)) (rSo χ si au so (rTo2 χ (κ si) t si au np we))) (wJ pl (fam4 (Sv cy sa g h3 κ ζ L (sPk P ac (rTo2 χ (κ si) t si au np we) 4) dl δ)))))))) := (vp_pc (fun n9 hn9 h90 => by simp only [wJ, hn9, h90, Nat.add_zero, Nat.zero_add] <;> ac_rfl))
    have hP : va_P D vwCl (wJ (uVP vo sv hm nt nw np nc) (wJ (uSV cy sv sa) (wJ (Aw ac an ak ap ab td) (wJ (uHM cy hm χ) (wJ (Ow no au kd na (nI t) (rWe χ si au we (rTo2 χ (κ si) t si au np we)) (rSo χ si au so (rTo2 χ (κ si) t si au np we))) (wJ pl (fam4 (Sv cy sa g h3 κ ζ L (sPk P ac (rTo2 χ (κ si) t si au np we) 4) dl δ)))))))) H := vp_perm hP hp7
    have hD : va_D A0 (wJ (uVP vo sv hm nt nw np nc) (wJ (uSV cy sv sa) (wJ (Aw ac an ak ap ab td) (wJ (uHM cy hm χ) (wJ (Ow no au kd na (nI t) (rWe χ si au we (rTo2 χ (κ si) t si au np we)) (rSo χ si au so (rTo2 χ (κ si) t si au np we))) (wJ pl (fam4 (Sv cy sa g h3 κ ζ L (sPk P ac (rTo2 χ (κ si) t si au np we) 4) dl δ)))))))) := vd_perm hp7 hD
    have hp8 : (wJ (uVP vo sv hm nt nw np nc) (wJ (uSV cy sv sa) (wJ (Aw ac an ak ap ab td) (wJ (uHM cy hm χ) (wJ (Ow no au kd na (nI t) (rWe χ si au we (rTo2 χ (κ si) t si au np we)) (rSo χ si au so (rTo2 χ (κ si) t si au np we))) (wJ pl (fam4 (Sv cy sa g h3 κ ζ L (sPk P ac (rTo2 χ (κ si) t si au np we) 4) dl δ))))))) : va_W).Perm (wJ (uVP vo sv hm nt nw np nc) (wJ (uHM cy hm χ) (wJ (uSV cy sv sa) (wJ (Ow no au kd na (nI t) (rWe χ si au we (rTo2 χ (κ si) t si au np we)) (rSo χ si au so (rTo2 χ (κ si) t si au np we))) (wJ (Aw ac an ak ap ab td) (wJ pl (fam4 (Sv cy sa g h3 κ ζ L (sPk P ac (rTo2 χ (κ si) t si au np we) 4) dl δ)))))))) := (vp_pc (fun n9 hn9 h90 => by simp only [wJ, hn9, h90, Nat.add_zero, Nat.zero_add] <;> ac_rfl))
    have hP : va_P D vwCl (wJ (uVP vo sv hm nt nw np nc) (wJ (uHM cy hm χ) (wJ (uSV cy sv sa) (wJ (Ow no au kd na (nI t) (rWe χ si au we (rTo2 χ (κ si) t si au np we)) (rSo χ si au so (rTo2 χ (κ si) t si au np we))) (wJ (Aw ac an ak ap ab td) (wJ pl (fam4 (Sv cy sa g h3 κ ζ L (sPk P ac (rTo2 χ (κ si) t si au np we) 4) dl δ)))))))) H := vp_perm hP hp8
    have hD : va_D A0 (wJ (uVP vo sv hm nt nw np nc) (wJ (uHM cy hm χ) (wJ (uSV cy sv sa) (wJ (Ow no au kd na (nI t) (rWe χ si au we (rTo2 χ (κ si) t si au np we)) (rSo χ si au so (rTo2 χ (κ si) t si au np we))) (wJ (Aw ac an ak ap ab td) (wJ pl (fam4 (Sv cy sa g h3 κ ζ L (sPk P ac (rTo2 χ (κ si) t si au np we) 4) dl δ)))))))) := vd_perm hp8 hD
    subst hA0
    refine W.widen (k := 4) (n := 4936) (by omega) (by omega) ?_
    exact W.vret hx hb hr (fun t ht hW => ⟨⟨h3, rfl, hk3, (by rw [ht]; exact hP), hD⟩, hS.F ht⟩) hS.2.2 dX4_sendReplyOn_95

theorem vl_nm1 {t : Nat} (h : t < 2 ^ 31) : ¬ nI t = (-1 : Int32) := fun q => nI_pos h (by rw [q]; decide)
theorem vl_neq {L : List Nat} {i v : Nat} (h : L[i]? = some v) : L ≠ [] := fun q => by rw [q] at h; simp at h
theorem vl_idx {L : List Nat} {i v : Nat} (h : L[i]? = some v) : i < L.length := (List.getElem?_eq_some_iff.mp h).1
theorem vl_okc {e0 ld cap : Nat} {L : List Nat} (h : vl_ok e0 ld cap L) (hne : L ≠ []) : L.length ≤ cap ∧ cap < 2 ^ 31 := by
  rcases h with ⟨h1, -⟩ | ⟨-, h2, h3⟩
  · exact absurd h1 hne
  · have := vl_cap10 h2
    omega
set_option maxHeartbeats 4000000 in
set_option maxRecDepth 100000 in
theorem kX4_sendOn_n (l : Launch) (D : va_G) (cy : Nat → ClassId) (sz e0 mi : Nat) (vo : Nat) (sv : Nat) (hm : Nat) (nt : Nat) (nw : Nat) (np : Nat) (nc : Nat) (χ : Nat → Nat) (sa : Nat → Nat) (ac : Nat) (an : Nat) (ak : Nat) (ap : Nat) (ab : Nat) (td : Int32) (pl : va_W) (g : Nat → Nat → Nat) (h : Nat → Nat → Nat) (κ : Nat → Nat → Nat → Int32) (ζ : Nat → Nat → Nat → Int64) (L : Nat → List Nat) (P : Nat → List Nat) (dl : Nat → Nat) (δ : Nat → Nat → Int32) (si : Nat) (X : va_W) (hok : vq_ok e0 h L P) (hk : ak < 11) (h8 : ak ≠ 8) (h9 : ak ≠ 9) : Met l yX4_sendOn wsX4_sendOn ({ frames := 9, cells := 4, slots := 4936, locals := 246 }) (vh_P D cy e0 mi [.ref vo, .int (nI si), .ref ac] sz (wJ (uVP vo sv hm nt nw np nc) (wJ (uHM cy hm χ) (wJ (uSV cy sv sa) (wJ (Aw ac an ak ap ab td) (wJ X (wJ pl (fam4 (Sv cy sa g h κ ζ L P dl δ))))))))) (vg_Qv (S := Nat → Nat → Nat) D sz (wJ (uVP vo sv hm nt nw np nc) (wJ (uHM cy hm χ) (wJ (uSV cy sv sa) (wJ (Aw ac an ak ap ab td) (wJ X (wJ pl (fam4 (Sv cy sa g h κ ζ L P dl δ)))))))) (fun u => vq_ok e0 u L (P)) (fun u => wJ (uVP vo sv hm nt nw np nc) (wJ (uHM cy hm χ) (wJ (uSV cy sv sa) (wJ (Aw ac an ak ap ab td) (wJ X (wJ pl (fam4 (Sv cy sa g u κ ζ L P dl δ))))))))) 4 4936 (va_A (wJ (uVP vo sv hm nt nw np nc) (wJ (uHM cy hm χ) (wJ (uSV cy sv sa) (wJ (Aw ac an ak ap ab td) (wJ X (wJ pl (fam4 (Sv cy sa g h κ ζ L P dl δ)))))))) sz) := by
  refine Met.ofW (cc := cX4_sendOn) (maxL := 4) (ret := none) (by decide) rfl ?_
  intro p e s m args below meth c s₁ BB hml hv
  obtain ⟨rfl, hsz, hP, hE, hD0, hF, hZ⟩ := hv
  have hx := BB.exec
  have hb := BB.bytes
  have hr := BB.returns
  have hts := atoms_spec (ws := wsX4_sendOn) BB.pre
  have hown : s.vm.findClass RX4 = some m.cls := findClass_of_methodNamed BB.named
  have hlocks := BB.notSynchronized
  subst hsz
  have hD := hD0.self (sz := s.heap.size)
  have hA : ∀ q : Nat, s.heap.size ≤ q → (va_A (wJ (uVP vo sv hm nt nw np nc) (wJ (uHM cy hm χ) (wJ (uSV cy sv sa) (wJ (Aw ac an ak ap ab td) (wJ X (wJ pl (fam4 (Sv cy sa g h κ ζ L P dl δ)))))))) s.heap.size) q := fun q h => Or.inr h
  have hS : va_S (va_A (wJ (uVP vo sv hm nt nw np nc) (wJ (uHM cy hm χ) (wJ (uSV cy sv sa) (wJ (Aw ac an ak ap ab td) (wJ X (wJ pl (fam4 (Sv cy sa g h κ ζ L P dl δ)))))))) s.heap.size) s.heap s.heap [] := va_S.rf
  obtain ⟨A0, hA0⟩ : ∃ A0 : Nat → Prop, A0 = va_A (wJ (uVP vo sv hm nt nw np nc) (wJ (uHM cy hm χ) (wJ (uSV cy sv sa) (wJ (Aw ac an ak ap ab td) (wJ X (wJ pl (fam4 (Sv cy sa g h κ ζ L P dl δ)))))))) s.heap.size := ⟨_, rfl⟩
  rw [← hA0]
  rw [← hA0] at hD hA hS hZ
  have hin_RX0 : ∀ w ∈ u_ws RX0 TX0 5, w ∈ wsX4_sendOn := by decide +kernel
  have hl := lv_entry ([.ref vo, .int (nI si), .ref ac]) (n := 4) (Nat.le_of_ble_eq_true rfl)
  rw [lg_entry_eq]
  generalize (lg_sl ([.ref vo, .int (nI si), .ref ac]) ++ List.replicate (4 - (lg_sl ([.ref vo, .int (nI si), .ref ac])).length) Slot.unset).toArray = ls at hl ⊢
  have hl : lv_has ls 4 [(0, .ref vo), (1, .int (nI si)), (2, .ref ac)] := hl
  refine lv_aload_n hx hb dX4_sendOn_0 rfl (lv_at hl 2 rfl) ?_
  refine va_get (D := D) (ci := 1) (v := .int (nI ak)) (C := RX0) (T := TX0) (N := 5) hx hb hts hin_RX0 hown hE.1 hP 3 rfl rfl 1 (by decide) (hts (.fieldLink RX4 180 "Villagepost$Act" "kind" "I") (by decide +kernel)) (fun _ h9 => h9) rfl dX4_sendOn_1 ?_
  refine lv_bipush (v := 8) hx hb dX4_sendOn_4 (by decide) ?_
  refine lv_icmp_eq (tgt := 19) hx hb dX4_sendOn_6 (by decide) (fun c9 => absurd c9 (vl_nne (b := 8) h8 (by omega) (by omega))) (fun _ => ?_)
  refine lv_aload_n hx hb dX4_sendOn_9 rfl (lv_at hl 2 rfl) ?_
  refine va_get (D := D) (ci := 1) (v := .int (nI ak)) (C := RX0) (T := TX0) (N := 5) hx hb hts hin_RX0 hown hE.1 hP 3 rfl rfl 1 (by decide) (hts (.fieldLink RX4 180 "Villagepost$Act" "kind" "I") (by decide +kernel)) (fun _ h9 => h9) rfl dX4_sendOn_10 ?_
  refine lv_bipush (v := 9) hx hb dX4_sendOn_13 (by decide) ?_
  refine lv_icmp_eq (tgt := 19) hx hb dX4_sendOn_15 (by decide) (fun c9 => absurd c9 (vl_nne (b := 9) h9 (by omega) (by omega))) (fun _ => ?_)
  subst hA0
  refine W.widen (k := 4) (n := 4936) (by omega) (by omega) ?_
  exact W.vret hx hb hr (fun t ht hW => ⟨⟨h, rfl, hok, (by rw [ht]; exact hP), hD⟩, hS.F ht⟩) hS.2.2 dX4_sendOn_18

set_option maxHeartbeats 4000000 in
set_option maxRecDepth 100000 in
theorem kX4_sendOn_n8 (l : Launch) (D : va_G) (cy : Nat → ClassId) (sz e0 mi : Nat) (vo : Nat) (sv : Nat) (hm : Nat) (nt : Nat) (nw : Nat) (np : Nat) (nc : Nat) (χ : Nat → Nat) (sa : Nat → Nat) (ac : Nat) (an : Nat) (ap : Nat) (ab : Nat) (td : Int32) (pl : va_W) (g : Nat → Nat → Nat) (h : Nat → Nat → Nat) (κ : Nat → Nat → Nat → Int32) (ζ : Nat → Nat → Nat → Int64) (L : Nat → List Nat) (P : Nat → List Nat) (dl : Nat → Nat) (δ : Nat → Nat → Int32) (si : Nat) (nm : Nat) (nd : Nat) (nca : Nat) (NL : List Nat) (no : Nat) (au : Nat) (kd : Int32) (na : Int32) (th : Int32) (we : Int32) (so : Int32) (t : Nat) (hok : vq_ok e0 h L P) (hnl : vl_ok e0 nd nca NL) (hno : NL[ab]? = some no) (hsi : si < 4) (hχ : ∀ j, j < 10 → χ j < 4) (hth : th = -1 ∨ (th = nI t ∧ t < 10)) (hcn : ¬ (kd = 0 ∧ ¬ th = -1 ∧ χ t = si)) : Met l yX4_sendOn wsX4_sendOn ({ frames := 9, cells := 4, slots := 4936, locals := 246 }) (vh_P D cy e0 mi [.ref vo, .int (nI si), .ref ac] sz (wJ (uVP vo sv hm nt nw np nc) (wJ (uHM cy hm χ) (wJ (uSV cy sv sa) (wJ (Aw ac an 8 ap ab td) (wJ (wJ (uLO nt nm nd NL) (wJ (Ow no au kd na th we so) (La cy nd nca NL))) (wJ pl (fam4 (Sv cy sa g h κ ζ L P dl δ))))))))) (vg_Qv (S := Nat → Nat → Nat) D sz (wJ (uVP vo sv hm nt nw np nc) (wJ (uHM cy hm χ) (wJ (uSV cy sv sa) (wJ (Aw ac an 8 ap ab td) (wJ (wJ (uLO nt nm nd NL) (wJ (Ow no au kd na th we so) (La cy nd nca NL))) (wJ pl (fam4 (Sv cy sa g h κ ζ L P dl δ)))))))) (fun u => vq_ok e0 u L (P)) (fun u => wJ (uVP vo sv hm nt nw np nc) (wJ (uHM cy hm χ) (wJ (uSV cy sv sa) (wJ (Aw ac an 8 ap ab td) (wJ (wJ (uLO nt nm nd NL) (wJ (Ow no au kd na th we so) (La cy nd nca NL))) (wJ pl (fam4 (Sv cy sa g u κ ζ L P dl δ))))))))) 4 4936 (va_A (wJ (uVP vo sv hm nt nw np nc) (wJ (uHM cy hm χ) (wJ (uSV cy sv sa) (wJ (Aw ac an 8 ap ab td) (wJ (wJ (uLO nt nm nd NL) (wJ (Ow no au kd na th we so) (La cy nd nca NL))) (wJ pl (fam4 (Sv cy sa g h κ ζ L P dl δ)))))))) sz) := by
  refine Met.ofW (cc := cX4_sendOn) (maxL := 4) (ret := none) (by decide) rfl ?_
  intro p e s m args below meth c s₁ BB hml hv
  obtain ⟨rfl, hsz, hP, hE, hD0, hF, hZ⟩ := hv
  have hx := BB.exec
  have hb := BB.bytes
  have hr := BB.returns
  have hts := atoms_spec (ws := wsX4_sendOn) BB.pre
  have hown : s.vm.findClass RX4 = some m.cls := findClass_of_methodNamed BB.named
  have hlocks := BB.notSynchronized
  subst hsz
  have hD := hD0.self (sz := s.heap.size)
  have hA : ∀ q : Nat, s.heap.size ≤ q → (va_A (wJ (uVP vo sv hm nt nw np nc) (wJ (uHM cy hm χ) (wJ (uSV cy sv sa) (wJ (Aw ac an 8 ap ab td) (wJ (wJ (uLO nt nm nd NL) (wJ (Ow no au kd na th we so) (La cy nd nca NL))) (wJ pl (fam4 (Sv cy sa g h κ ζ L P dl δ)))))))) s.heap.size) q := fun q h => Or.inr h
  have hS : va_S (va_A (wJ (uVP vo sv hm nt nw np nc) (wJ (uHM cy hm χ) (wJ (uSV cy sv sa) (wJ (Aw ac an 8 ap ab td) (wJ (wJ (uLO nt nm nd NL) (wJ (Ow no au kd na th we so) (La cy nd nca NL))) (wJ pl (fam4 (Sv cy sa g h κ ζ L P dl δ)))))))) s.heap.size) s.heap s.heap [] := va_S.rf
  obtain ⟨A0, hA0⟩ : ∃ A0 : Nat → Prop, A0 = va_A (wJ (uVP vo sv hm nt nw np nc) (wJ (uHM cy hm χ) (wJ (uSV cy sv sa) (wJ (Aw ac an 8 ap ab td) (wJ (wJ (uLO nt nm nd NL) (wJ (Ow no au kd na th we so) (La cy nd nca NL))) (wJ pl (fam4 (Sv cy sa g h κ ζ L P dl δ)))))))) s.heap.size := ⟨_, rfl⟩
  rw [← hA0]
  rw [← hA0] at hD hA hS hZ
  have hin_RX0 : ∀ w ∈ u_ws RX0 TX0 5, w ∈ wsX4_sendOn := by decide +kernel
  have hin_RX2 : ∀ w ∈ u_ws RX2 TX2 6, w ∈ wsX4_sendOn := by decide +kernel
  have hin_RX4 : ∀ w ∈ u_ws RX4 TX4 6, w ∈ wsX4_sendOn := by decide +kernel
  have hl := lv_entry ([.ref vo, .int (nI si), .ref ac]) (n := 4) (Nat.le_of_ble_eq_true rfl)
  rw [lg_entry_eq]
  generalize (lg_sl ([.ref vo, .int (nI si), .ref ac]) ++ List.replicate (4 - (lg_sl ([.ref vo, .int (nI si), .ref ac])).length) Slot.unset).toArray = ls at hl ⊢
  have hl : lv_has ls 4 [(0, .ref vo), (1, .int (nI si)), (2, .ref ac)] := hl
  refine lv_aload_n hx hb dX4_sendOn_0 rfl (lv_at hl 2 rfl) ?_
  refine va_get (D := D) (ci := 1) (v := .int (nI 8)) (C := RX0) (T := TX0) (N := 5) hx hb hts hin_RX0 hown hE.1 hP 3 rfl rfl 1 (by decide) (hts (.fieldLink RX4 180 "Villagepost$Act" "kind" "I") (by decide +kernel)) (fun _ h9 => h9) rfl dX4_sendOn_1 ?_
  refine lv_bipush (v := 8) hx hb dX4_sendOn_4 (by decide) ?_
  refine lv_icmp_eq (tgt := 19) hx hb dX4_sendOn_6 (by decide) (fun _ => ?_) (fun c9 => False.elim (by revert c9; decide))
  have hp7 : (wJ (uVP vo sv hm nt nw np nc) (wJ (uHM cy hm χ) (wJ (uSV cy sv sa) (wJ (Aw ac an 8 ap ab td) (wJ (wJ (uLO nt nm nd NL) (wJ (Ow no au kd na th we so) (La cy nd nca NL))) (wJ pl (fam4 (Sv cy sa g h κ ζ L P dl δ))))))) : va_W).Perm (wJ (uLO nt nm nd NL) (wJ (Ow no au kd na th we so) (wJ (uVP vo sv hm nt nw np nc) (wJ (uHM cy hm χ) (wJ (uSV cy sv sa) (wJ (Aw ac an 8 ap ab td) (wJ (La cy nd nca NL) (wJ pl (fam4 (Sv cy sa g h κ ζ L P dl δ)))))))))) := vp_swap (u := (wJ (uLO nt nm nd NL) (wJ (Ow no au kd na th we so) (La cy nd nca NL)))) (u2 := wJ (uLO nt nm nd NL) (wJ (Ow no au kd na th we so) (La cy nd nca NL))) (r := wJ (uVP vo sv hm nt nw np nc) (wJ (uHM cy hm χ) (wJ (uSV cy sv sa) (wJ (Aw ac an 8 ap ab td) (wJ pl (fam4 (Sv cy sa g h κ ζ L P dl δ))))))) (vp_pc (fun n9 hn9 h90 => by simp only [wJ, hn9, h90, Nat.add_zero, Nat.zero_add] <;> ac_rfl)) ((List.Perm.refl _)) (vp_pc (fun n9 hn9 h90 => by simp only [wJ, hn9, h90, Nat.add_zero, Nat.zero_add] <;> ac_rfl))
  have hP : va_P D vwCl (wJ (uLO nt nm nd NL) (wJ (Ow no au kd na th we so) (wJ (uVP vo sv hm nt nw np nc) (wJ (uHM cy hm χ) (wJ (uSV cy sv sa) (wJ (Aw ac an 8 ap ab td) (wJ (La cy nd nca NL) (wJ pl (fam4 (Sv cy sa g h κ ζ L P dl δ)))))))))) s.heap := vp_perm hP hp7
  have hD : va_D A0 (wJ (uLO nt nm nd NL) (wJ (Ow no au kd na th we so) (wJ (uVP vo sv hm nt nw np nc) (wJ (uHM cy hm χ) (wJ (uSV cy sv sa) (wJ (Aw ac an 8 ap ab td) (wJ (La cy nd nca NL) (wJ pl (fam4 (Sv cy sa g h κ ζ L P dl δ)))))))))) := vd_perm hp7 hD
  have hne9 := vl_neq hno
  have hcp9 := vl_okc hnl hne9
  have hp7 : (wJ (uLO nt nm nd NL) (wJ (Ow no au kd na th we so) (wJ (uVP vo sv hm nt nw np nc) (wJ (uHM cy hm χ) (wJ (uSV cy sv sa) (wJ (Aw ac an 8 ap ab td) (wJ (La cy nd nca NL) (wJ pl (fam4 (Sv cy sa g h κ ζ L P dl δ))))))))) : va_W).Perm (wJ (uLD cy nd nca NL) (wJ (uLO nt nm nd NL) (wJ (Ow no au kd na th we so) (wJ (uVP vo sv hm nt nw np nc) (wJ (uHM cy hm χ) (wJ (uSV cy sv sa) (wJ (Aw ac an 8 ap ab td) (wJ pl (fam4 (Sv cy sa g h κ ζ L P dl δ)))))))))) := vp_swap (u := La cy nd nca NL) (u2 := uLD cy nd nca NL) (r := wJ (uLO nt nm nd NL) (wJ (Ow no au kd na th we so) (wJ (uVP vo sv hm nt nw np nc) (wJ (uHM cy hm χ) (wJ (uSV cy sv sa) (wJ (Aw ac an 8 ap ab td) (wJ pl (fam4 (Sv cy sa g h κ ζ L P dl δ))))))))) (vp_pc (fun n9 hn9 h90 => by simp only [wJ, hn9, h90, Nat.add_zero, Nat.zero_add] <;> ac_rfl)) ((List.Perm.of_eq (La_ne cy nd nca hne9))) (List.Perm.refl _)
  have hP : va_P D vwCl (wJ (uLD cy nd nca NL) (wJ (uLO nt nm nd NL) (wJ (Ow no au kd na th we so) (wJ (uVP vo sv hm nt nw np nc) (wJ (uHM cy hm χ) (wJ (uSV cy sv sa) (wJ (Aw ac an 8 ap ab td) (wJ pl (fam4 (Sv cy sa g h κ ζ L P dl δ)))))))))) s.heap := vp_perm hP hp7
  have hD : va_D A0 (wJ (uLD cy nd nca NL) (wJ (uLO nt nm nd NL) (wJ (Ow no au kd na th we so) (wJ (uVP vo sv hm nt nw np nc) (wJ (uHM cy hm χ) (wJ (uSV cy sv sa) (wJ (Aw ac an 8 ap ab td) (wJ pl (fam4 (Sv cy sa g h κ ζ L P dl δ)))))))))) := vd_perm hp7 hD
  refine lv_aload_n hx hb dX4_sendOn_19 rfl (lv_at hl 0 rfl) ?_
  refine va_get (D := D) (ci := 5) (v := .ref nt) (C := RX4) (T := TX4) (N := 6) hx hb hts hin_RX4 hown hE.1 hP 3 rfl rfl 2 (by decide) (hts (.fieldLink RX4 23 "Villagepost" "notes" "Ljava/util/ArrayList;") (by decide +kernel)) (fun _ h9 => h9) rfl dX4_sendOn_20 ?_
  refine lv_aload_n hx hb dX4_sendOn_23 rfl (lv_at hl 2 rfl) ?_
  refine va_get (D := D) (ci := 1) (v := .int (nI ab)) (C := RX0) (T := TX0) (N := 5) hx hb hts hin_RX0 hown hE.1 hP 6 rfl rfl 3 (by decide) (hts (.fieldLink RX4 240 "Villagepost$Act" "about" "I") (by decide +kernel)) (fun _ h9 => h9) rfl dX4_sendOn_24 ?_
  have hp9 : (wJ (uLD cy nd nca NL) (wJ (uLO nt nm nd NL) (wJ (Ow no au kd na th we so) (wJ (uVP vo sv hm nt nw np nc) (wJ (uHM cy hm χ) (wJ (uSV cy sv sa) (wJ (Aw ac an 8 ap ab td) (wJ pl (fam4 (Sv cy sa g h κ ζ L P dl δ))))))))) : va_W).Perm (wJ (wJ (uLO nt nm nd NL) (uLD cy nd nca NL)) (wJ (Ow no au kd na th we so) (wJ (uVP vo sv hm nt nw np nc) (wJ (uHM cy hm χ) (wJ (uSV cy sv sa) (wJ (Aw ac an 8 ap ab td) (wJ pl (fam4 (Sv cy sa g h κ ζ L P dl δ))))))))) := (vp_pc (fun n9 hn9 h90 => by simp only [wJ, hn9, h90, Nat.add_zero, Nat.zero_add] <;> ac_rfl))
  refine vj_callq (va_runV (As := [.int (nI ab)]) (rest := []) ⟨hx, hb, hml, hown, hts⟩ (kJx4a65c_get_915e3 l D cy s.heap.size nt (nI nm) nd nca NL ab no (hcp9.1) (hcp9.2) (vl_idx hno) (hno)) (cwV 1 hts gX4_sendOn_Jx4a65c_get_915e3 rfl rfl rfl (by decide +kernel) ⟨Nat.le_of_ble_eq_true rfl, Nat.le_of_ble_eq_true rfl⟩) (vg_P.preV hE hP 1 rfl rfl (vp_app.mp (vp_perm hP hp9)).1 (vd_app.mp (vd_perm hp9 hD)).1) rfl rfl hl.1 rfl (lv_room (Nat.le_of_ble_eq_true rfl)) dX4_sendOn_27 ⟨Nat.le_of_ble_eq_true rfl, Nat.le_of_ble_eq_true rfl⟩) hP hD hS hA hp9 (fun r _ H locs hr hP hD hS => ?_)
  subst hr
  have hp7 : (wJ (wJ (uLO nt nm nd NL) (uLD cy nd nca NL)) (wJ (Ow no au kd na th we so) (wJ (uVP vo sv hm nt nw np nc) (wJ (uHM cy hm χ) (wJ (uSV cy sv sa) (wJ (Aw ac an 8 ap ab td) (wJ pl (fam4 (Sv cy sa g h κ ζ L P dl δ)))))))) : va_W).Perm (wJ (uLO nt nm nd NL) (wJ (uLD cy nd nca NL) (wJ (Ow no au kd na th we so) (wJ (uVP vo sv hm nt nw np nc) (wJ (uHM cy hm χ) (wJ (uSV cy sv sa) (wJ (Aw ac an 8 ap ab td) (wJ pl (fam4 (Sv cy sa g h κ ζ L P dl δ)))))))))) := (vp_pc (fun n9 hn9 h90 => by simp only [wJ, hn9, h90, Nat.add_zero, Nat.zero_add] <;> ac_rfl))
  have hP : va_P D vwCl (wJ (uLO nt nm nd NL) (wJ (uLD cy nd nca NL) (wJ (Ow no au kd na th we so) (wJ (uVP vo sv hm nt nw np nc) (wJ (uHM cy hm χ) (wJ (uSV cy sv sa) (wJ (Aw ac an 8 ap ab td) (wJ pl (fam4 (Sv cy sa g h κ ζ L P dl δ)))))))))) H := vp_perm hP hp7
  have hD : va_D A0 (wJ (uLO nt nm nd NL) (wJ (uLD cy nd nca NL) (wJ (Ow no au kd na th we so) (wJ (uVP vo sv hm nt nw np nc) (wJ (uHM cy hm χ) (wJ (uSV cy sv sa) (wJ (Aw ac an 8 ap ab td) (wJ pl (fam4 (Sv cy sa g h κ ζ L P dl δ)))))))))) := vd_perm hp7 hD
  refine W.eq (g2 := F0 m 30 ls [.ref no]) rfl ?_
  refine va_castS hx hb hown (hts (.classLink RX4 134 RX2) (by decide +kernel)) (hE.1.1 3 _ rfl).2 (va_recv hE.1 hP (q0 := 2) (ci := 3) rfl rfl) dX4_sendOn_30 ?_
  have hp7 : (wJ (uLO nt nm nd NL) (wJ (uLD cy nd nca NL) (wJ (Ow no au kd na th we so) (wJ (uVP vo sv hm nt nw np nc) (wJ (uHM cy hm χ) (wJ (uSV cy sv sa) (wJ (Aw ac an 8 ap ab td) (wJ pl (fam4 (Sv cy sa g h κ ζ L P dl δ))))))))) : va_W).Perm (wJ (uLO nt nm nd NL) (wJ (Ow no au kd na th we so) (wJ (uVP vo sv hm nt nw np nc) (wJ (uHM cy hm χ) (wJ (uSV cy sv sa) (wJ (Aw ac an 8 ap ab td) (wJ (La cy nd nca NL) (wJ pl (fam4 (Sv cy sa g h κ ζ L P dl δ)))))))))) := vp_swap (u := uLD cy nd nca NL) (u2 := La cy nd nca NL) (r := wJ (uLO nt nm nd NL) (wJ (Ow no au kd na th we so) (wJ (uVP vo sv hm nt nw np nc) (wJ (uHM cy hm χ) (wJ (uSV cy sv sa) (wJ (Aw ac an 8 ap ab td) (wJ pl (fam4 (Sv cy sa g h κ ζ L P dl δ))))))))) (vp_pc (fun n9 hn9 h90 => by simp only [wJ, hn9, h90, Nat.add_zero, Nat.zero_add] <;> ac_rfl)) ((List.Perm.of_eq (La_ne cy nd nca hne9).symm)) (vp_pc (fun n9 hn9 h90 => by simp only [wJ, hn9, h90, Nat.add_zero, Nat.zero_add] <;> ac_rfl))
  have hP : va_P D vwCl (wJ (uLO nt nm nd NL) (wJ (Ow no au kd na th we so) (wJ (uVP vo sv hm nt nw np nc) (wJ (uHM cy hm χ) (wJ (uSV cy sv sa) (wJ (Aw ac an 8 ap ab td) (wJ (La cy nd nca NL) (wJ pl (fam4 (Sv cy sa g h κ ζ L P dl δ)))))))))) H := vp_perm hP hp7
  have hD : va_D A0 (wJ (uLO nt nm nd NL) (wJ (Ow no au kd na th we so) (wJ (uVP vo sv hm nt nw np nc) (wJ (uHM cy hm χ) (wJ (uSV cy sv sa) (wJ (Aw ac an 8 ap ab td) (wJ (La cy nd nca NL) (wJ pl (fam4 (Sv cy sa g h κ ζ L P dl δ)))))))))) := vd_perm hp7 hD
  refine lv_astore_n (lv' := [(3, .ref no), (0, .ref vo), (1, .int (nI si)), (2, .ref ac)]) hx hb dX4_sendOn_33 rfl hl (by decide) rfl (fun ls hl => ?_)
  have hl : lv_has ls 4 [(0, .ref vo), (1, .int (nI si)), (2, .ref ac), (3, .ref no)] := lv_sub hl [1, 2, 3, 0] rfl
  refine lv_aload_n hx hb dX4_sendOn_34 rfl (lv_at hl 3 rfl) ?_
  refine va_get (D := D) (ci := 3) (v := .int kd) (C := RX2) (T := TX2) (N := 6) hx hb hts hin_RX2 hown hE.1 hP 1 rfl rfl 1 (by decide) (hts (.fieldLink RX4 159 "Villagepost$Note" "kind" "I") (by decide +kernel)) (fun _ h9 => h9) rfl dX4_sendOn_35 ?_
  refine lv_if_ne (tgt := 62) hx hb dX4_sendOn_38 (by decide) (fun r2 => ?_) (fun r2 => ?_)
  · have c2 := r2
    have hp8 : (wJ (uLO nt nm nd NL) (wJ (Ow no au kd na th we so) (wJ (uVP vo sv hm nt nw np nc) (wJ (uHM cy hm χ) (wJ (uSV cy sv sa) (wJ (Aw ac an 8 ap ab td) (wJ (La cy nd nca NL) (wJ pl (fam4 (Sv cy sa g h κ ζ L P dl δ))))))))) : va_W).Perm (wJ (uVP vo sv hm nt nw np nc) (wJ (uHM cy hm χ) (wJ (uSV cy sv sa) (wJ (Aw ac an 8 ap ab td) (wJ (wJ (uLO nt nm nd NL) (wJ (Ow no au kd na th we so) (La cy nd nca NL))) (wJ pl (fam4 (Sv cy sa g h κ ζ L P dl δ)))))))) := (vp_pc (fun n9 hn9 h90 => by simp only [wJ, hn9, h90, Nat.add_zero, Nat.zero_add] <;> ac_rfl))
    have hP : va_P D vwCl (wJ (uVP vo sv hm nt nw np nc) (wJ (uHM cy hm χ) (wJ (uSV cy sv sa) (wJ (Aw ac an 8 ap ab td) (wJ (wJ (uLO nt nm nd NL) (wJ (Ow no au kd na th we so) (La cy nd nca NL))) (wJ pl (fam4 (Sv cy sa g h κ ζ L P dl δ)))))))) H := vp_perm hP hp8
    have hD : va_D A0 (wJ (uVP vo sv hm nt nw np nc) (wJ (uHM cy hm χ) (wJ (uSV cy sv sa) (wJ (Aw ac an 8 ap ab td) (wJ (wJ (uLO nt nm nd NL) (wJ (Ow no au kd na th we so) (La cy nd nca NL))) (wJ pl (fam4 (Sv cy sa g h κ ζ L P dl δ)))))))) := vd_perm hp8 hD
    subst hA0
    refine W.widen (k := 4) (n := 4936) (by omega) (by omega) ?_
    exact W.vret hx hb hr (fun t ht hW => ⟨⟨h, rfl, hok, (by rw [ht]; exact hP), hD⟩, hS.F ht⟩) hS.2.2 dX4_sendOn_62
  · have c2 := r2
    refine lv_aload_n hx hb dX4_sendOn_41 rfl (lv_at hl 3 rfl) ?_
    refine va_get (D := D) (ci := 3) (v := .int th) (C := RX2) (T := TX2) (N := 6) hx hb hts hin_RX2 hown hE.1 hP 1 rfl rfl 3 (by decide) (hts (.fieldLink RX4 243 "Villagepost$Note" "thread" "I") (by decide +kernel)) (fun _ h9 => h9) rfl dX4_sendOn_42 ?_
    refine lv_iconst (v := (-1)) hx hb dX4_sendOn_45 (by decide) ?_
    refine lv_icmp_eq (tgt := 62) hx hb dX4_sendOn_46 (by decide) (fun r3 => ?_) (fun r3 => ?_)
    · have c3 := r3
      have hp8 : (wJ (uLO nt nm nd NL) (wJ (Ow no au kd na th we so) (wJ (uVP vo sv hm nt nw np nc) (wJ (uHM cy hm χ) (wJ (uSV cy sv sa) (wJ (Aw ac an 8 ap ab td) (wJ (La cy nd nca NL) (wJ pl (fam4 (Sv cy sa g h κ ζ L P dl δ))))))))) : va_W).Perm (wJ (uVP vo sv hm nt nw np nc) (wJ (uHM cy hm χ) (wJ (uSV cy sv sa) (wJ (Aw ac an 8 ap ab td) (wJ (wJ (uLO nt nm nd NL) (wJ (Ow no au kd na th we so) (La cy nd nca NL))) (wJ pl (fam4 (Sv cy sa g h κ ζ L P dl δ)))))))) := (vp_pc (fun n9 hn9 h90 => by simp only [wJ, hn9, h90, Nat.add_zero, Nat.zero_add] <;> ac_rfl))
      have hP : va_P D vwCl (wJ (uVP vo sv hm nt nw np nc) (wJ (uHM cy hm χ) (wJ (uSV cy sv sa) (wJ (Aw ac an 8 ap ab td) (wJ (wJ (uLO nt nm nd NL) (wJ (Ow no au kd na th we so) (La cy nd nca NL))) (wJ pl (fam4 (Sv cy sa g h κ ζ L P dl δ)))))))) H := vp_perm hP hp8
      have hD : va_D A0 (wJ (uVP vo sv hm nt nw np nc) (wJ (uHM cy hm χ) (wJ (uSV cy sv sa) (wJ (Aw ac an 8 ap ab td) (wJ (wJ (uLO nt nm nd NL) (wJ (Ow no au kd na th we so) (La cy nd nca NL))) (wJ pl (fam4 (Sv cy sa g h κ ζ L P dl δ)))))))) := vd_perm hp8 hD
      subst hA0
      refine W.widen (k := 4) (n := 4936) (by omega) (by omega) ?_
      exact W.vret hx hb hr (fun t ht hW => ⟨⟨h, rfl, hok, (by rw [ht]; exact hP), hD⟩, hS.F ht⟩) hS.2.2 dX4_sendOn_62
    · have c3 := r3
      obtain ⟨rfl, ht10⟩ := hth.resolve_left r3
      have hχt := hχ t ht10
      refine lv_aload_n hx hb dX4_sendOn_49 rfl (lv_at hl 0 rfl) ?_
      refine va_get (D := D) (ci := 5) (v := .ref hm) (C := RX4) (T := TX4) (N := 6) hx hb hts hin_RX4 hown hE.1 hP 2 rfl rfl 1 (by decide) (hts (.fieldLink RX4 16 "Villagepost" "homes" "[I") (by decide +kernel)) (fun _ h9 => h9) rfl dX4_sendOn_50 ?_
      refine lv_aload_n hx hb dX4_sendOn_53 rfl (lv_at hl 3 rfl) ?_
      refine va_get (D := D) (ci := 3) (v := .int (nI t)) (C := RX2) (T := TX2) (N := 6) hx hb hts hin_RX2 hown hE.1 hP 1 rfl rfl 3 (by decide) (hts (.fieldLink RX4 243 "Villagepost$Note" "thread" "I") (by decide +kernel)) (fun _ h9 => h9) rfl dX4_sendOn_54 ?_
      refine vg_iald hx hb hE.1 hP 3 0 rfl rfl (f := fun j => nI (χ j)) (j := t) (by omega) (by decide) dX4_sendOn_57 ?_
      refine vg_tp (nI (χ t)) (rfl) ?_
      refine lv_iload_n hx hb dX4_sendOn_58 rfl (lv_at hl 1 rfl) ?_
      refine lv_icmp_eq (tgt := 63) hx hb dX4_sendOn_59 (by decide) (fun r4 => ?_) (fun r4 => ?_)
      · have c4 : χ t = si := (nI_eq (a := χ t) (b := si) (by omega) (by omega)).mp r4
        exact absurd ⟨by assumption, by assumption, by assumption⟩ hcn
      · have c4 : ¬ χ t = si := fun q => r4 ((nI_eq (a := χ t) (b := si) (by omega) (by omega)).mpr q)
        have hp8 : (wJ (uLO nt nm nd NL) (wJ (Ow no au kd na (nI t) we so) (wJ (uVP vo sv hm nt nw np nc) (wJ (uHM cy hm χ) (wJ (uSV cy sv sa) (wJ (Aw ac an 8 ap ab td) (wJ (La cy nd nca NL) (wJ pl (fam4 (Sv cy sa g h κ ζ L P dl δ))))))))) : va_W).Perm (wJ (uVP vo sv hm nt nw np nc) (wJ (uHM cy hm χ) (wJ (uSV cy sv sa) (wJ (Aw ac an 8 ap ab td) (wJ (wJ (uLO nt nm nd NL) (wJ (Ow no au kd na (nI t) we so) (La cy nd nca NL))) (wJ pl (fam4 (Sv cy sa g h κ ζ L P dl δ)))))))) := (vp_pc (fun n9 hn9 h90 => by simp only [wJ, hn9, h90, Nat.add_zero, Nat.zero_add] <;> ac_rfl))
        have hP : va_P D vwCl (wJ (uVP vo sv hm nt nw np nc) (wJ (uHM cy hm χ) (wJ (uSV cy sv sa) (wJ (Aw ac an 8 ap ab td) (wJ (wJ (uLO nt nm nd NL) (wJ (Ow no au kd na (nI t) we so) (La cy nd nca NL))) (wJ pl (fam4 (Sv cy sa g h κ ζ L P dl δ)))))))) H := vp_perm hP hp8
        have hD : va_D A0 (wJ (uVP vo sv hm nt nw np nc) (wJ (uHM cy hm χ) (wJ (uSV cy sv sa) (wJ (Aw ac an 8 ap ab td) (wJ (wJ (uLO nt nm nd NL) (wJ (Ow no au kd na (nI t) we so) (La cy nd nca NL))) (wJ pl (fam4 (Sv cy sa g h κ ζ L P dl δ)))))))) := vd_perm hp8 hD
        subst hA0
        refine W.widen (k := 4) (n := 4936) (by omega) (by omega) ?_
        exact W.vret hx hb hr (fun t ht hW => ⟨⟨h, rfl, hok, (by rw [ht]; exact hP), hD⟩, hS.F ht⟩) hS.2.2 dX4_sendOn_62

set_option maxHeartbeats 4000000 in
set_option maxRecDepth 100000 in
theorem kX4_sendOn_y8 (l : Launch) (D : va_G) (cy : Nat → ClassId) (sz e0 mi : Nat) (vo : Nat) (sv : Nat) (hm : Nat) (nt : Nat) (nw : Nat) (np : Nat) (nc : Nat) (χ : Nat → Nat) (sa : Nat → Nat) (ac : Nat) (an : Nat) (ap : Nat) (ab : Nat) (td : Int32) (pl : va_W) (g : Nat → Nat → Nat) (h : Nat → Nat → Nat) (κ : Nat → Nat → Nat → Int32) (ζ : Nat → Nat → Nat → Int64) (L : Nat → List Nat) (P : Nat → List Nat) (dl : Nat → Nat) (δ : Nat → Nat → Int32) (si : Nat) (nm : Nat) (nd : Nat) (nca : Nat) (NL : List Nat) (no : Nat) (au : Nat) (kd : Int32) (na : Int32) (we : Int32) (so : Int32) (t : Nat) (hnp : np ≤ 10) (hau : au < 10) (ht : t < 10) (hχ : ∀ j, j < 10 → χ j < 4) (hok : vq_ok e0 h L P) (hel : vq_el L P (Aw ac an 8 ap ab td ++ pl)) (hpn : vq_len P 1023) (hnl : vl_ok e0 nd nca NL) (hno : NL[ab]? = some no) (hsi : si < 4) (hkd : kd = 0) (hct : χ t = si) : Met l yX4_sendOn wsX4_sendOn ({ frames := 9, cells := 4, slots := 4936, locals := 246 }) (vh_P D cy e0 mi [.ref vo, .int (nI si), .ref ac] sz (wJ (uVP vo sv hm nt nw np nc) (wJ (uHM cy hm χ) (wJ (uSV cy sv sa) (wJ (Aw ac an 8 ap ab td) (wJ (wJ (uLO nt nm nd NL) (wJ (Ow no au kd na (nI t) we so) (La cy nd nca NL))) (wJ pl (fam4 (Sv cy sa g h κ ζ L P dl δ))))))))) (vg_Qv (S := Nat → Nat → Nat) D sz (wJ (uVP vo sv hm nt nw np nc) (wJ (uHM cy hm χ) (wJ (uSV cy sv sa) (wJ (Aw ac an 8 ap ab td) (wJ (wJ (uLO nt nm nd NL) (wJ (Ow no au kd na (nI t) we so) (La cy nd nca NL))) (wJ pl (fam4 (Sv cy sa g h κ ζ L P dl δ)))))))) (fun u => vq_ok e0 u L (sPk P ac (rTo2 χ (κ si) t si au np we) 4)) (fun u => wJ (uVP vo sv hm nt nw np nc) (wJ (uHM cy hm χ) (wJ (uSV cy sv sa) (wJ (Aw ac an 8 ap ab td) (wJ (wJ (uLO nt nm nd NL) (wJ (Ow no au kd na (nI t) (rWe χ si au we (rTo2 χ (κ si) t si au np we)) (rSo χ si au so (rTo2 χ (κ si) t si au np we))) (La cy nd nca NL))) (wJ pl (fam4 (Sv cy sa g u κ ζ L (sPk P ac (rTo2 χ (κ si) t si au np we) 4) dl δ))))))))) 4 4936 (va_A (wJ (uVP vo sv hm nt nw np nc) (wJ (uHM cy hm χ) (wJ (uSV cy sv sa) (wJ (Aw ac an 8 ap ab td) (wJ (wJ (uLO nt nm nd NL) (wJ (Ow no au kd na (nI t) we so) (La cy nd nca NL))) (wJ pl (fam4 (Sv cy sa g h κ ζ L P dl δ)))))))) sz) := by
  refine Met.ofW (cc := cX4_sendOn) (maxL := 4) (ret := none) (by decide) rfl ?_
  intro p e s m args below meth c s₁ BB hml hv
  obtain ⟨rfl, hsz, hP, hE, hD0, hF, hZ⟩ := hv
  have hx := BB.exec
  have hb := BB.bytes
  have hr := BB.returns
  have hts := atoms_spec (ws := wsX4_sendOn) BB.pre
  have hown : s.vm.findClass RX4 = some m.cls := findClass_of_methodNamed BB.named
  have hlocks := BB.notSynchronized
  subst hsz
  have hD := hD0.self (sz := s.heap.size)
  have hA : ∀ q : Nat, s.heap.size ≤ q → (va_A (wJ (uVP vo sv hm nt nw np nc) (wJ (uHM cy hm χ) (wJ (uSV cy sv sa) (wJ (Aw ac an 8 ap ab td) (wJ (wJ (uLO nt nm nd NL) (wJ (Ow no au kd na (nI t) we so) (La cy nd nca NL))) (wJ pl (fam4 (Sv cy sa g h κ ζ L P dl δ)))))))) s.heap.size) q := fun q h => Or.inr h
  have hS : va_S (va_A (wJ (uVP vo sv hm nt nw np nc) (wJ (uHM cy hm χ) (wJ (uSV cy sv sa) (wJ (Aw ac an 8 ap ab td) (wJ (wJ (uLO nt nm nd NL) (wJ (Ow no au kd na (nI t) we so) (La cy nd nca NL))) (wJ pl (fam4 (Sv cy sa g h κ ζ L P dl δ)))))))) s.heap.size) s.heap s.heap [] := va_S.rf
  obtain ⟨A0, hA0⟩ : ∃ A0 : Nat → Prop, A0 = va_A (wJ (uVP vo sv hm nt nw np nc) (wJ (uHM cy hm χ) (wJ (uSV cy sv sa) (wJ (Aw ac an 8 ap ab td) (wJ (wJ (uLO nt nm nd NL) (wJ (Ow no au kd na (nI t) we so) (La cy nd nca NL))) (wJ pl (fam4 (Sv cy sa g h κ ζ L P dl δ)))))))) s.heap.size := ⟨_, rfl⟩
  rw [← hA0]
  rw [← hA0] at hD hA hS hZ
  have hin_RX0 : ∀ w ∈ u_ws RX0 TX0 5, w ∈ wsX4_sendOn := by decide +kernel
  have hin_RX2 : ∀ w ∈ u_ws RX2 TX2 6, w ∈ wsX4_sendOn := by decide +kernel
  have hin_RX4 : ∀ w ∈ u_ws RX4 TX4 6, w ∈ wsX4_sendOn := by decide +kernel
  have hl := lv_entry ([.ref vo, .int (nI si), .ref ac]) (n := 4) (Nat.le_of_ble_eq_true rfl)
  rw [lg_entry_eq]
  generalize (lg_sl ([.ref vo, .int (nI si), .ref ac]) ++ List.replicate (4 - (lg_sl ([.ref vo, .int (nI si), .ref ac])).length) Slot.unset).toArray = ls at hl ⊢
  have hl : lv_has ls 4 [(0, .ref vo), (1, .int (nI si)), (2, .ref ac)] := hl
  refine lv_aload_n hx hb dX4_sendOn_0 rfl (lv_at hl 2 rfl) ?_
  refine va_get (D := D) (ci := 1) (v := .int (nI 8)) (C := RX0) (T := TX0) (N := 5) hx hb hts hin_RX0 hown hE.1 hP 3 rfl rfl 1 (by decide) (hts (.fieldLink RX4 180 "Villagepost$Act" "kind" "I") (by decide +kernel)) (fun _ h9 => h9) rfl dX4_sendOn_1 ?_
  refine lv_bipush (v := 8) hx hb dX4_sendOn_4 (by decide) ?_
  refine lv_icmp_eq (tgt := 19) hx hb dX4_sendOn_6 (by decide) (fun _ => ?_) (fun c9 => False.elim (by revert c9; decide))
  have hp7 : (wJ (uVP vo sv hm nt nw np nc) (wJ (uHM cy hm χ) (wJ (uSV cy sv sa) (wJ (Aw ac an 8 ap ab td) (wJ (wJ (uLO nt nm nd NL) (wJ (Ow no au kd na (nI t) we so) (La cy nd nca NL))) (wJ pl (fam4 (Sv cy sa g h κ ζ L P dl δ))))))) : va_W).Perm (wJ (uLO nt nm nd NL) (wJ (Ow no au kd na (nI t) we so) (wJ (uVP vo sv hm nt nw np nc) (wJ (uHM cy hm χ) (wJ (uSV cy sv sa) (wJ (Aw ac an 8 ap ab td) (wJ (La cy nd nca NL) (wJ pl (fam4 (Sv cy sa g h κ ζ L P dl δ)))))))))) := vp_swap (u := (wJ (uLO nt nm nd NL) (wJ (Ow no au kd na (nI t) we so) (La cy nd nca NL)))) (u2 := wJ (uLO nt nm nd NL) (wJ (Ow no au kd na (nI t) we so) (La cy nd nca NL))) (r := wJ (uVP vo sv hm nt nw np nc) (wJ (uHM cy hm χ) (wJ (uSV cy sv sa) (wJ (Aw ac an 8 ap ab td) (wJ pl (fam4 (Sv cy sa g h κ ζ L P dl δ))))))) (vp_pc (fun n9 hn9 h90 => by simp only [wJ, hn9, h90, Nat.add_zero, Nat.zero_add] <;> ac_rfl)) ((List.Perm.refl _)) (vp_pc (fun n9 hn9 h90 => by simp only [wJ, hn9, h90, Nat.add_zero, Nat.zero_add] <;> ac_rfl))
  have hP : va_P D vwCl (wJ (uLO nt nm nd NL) (wJ (Ow no au kd na (nI t) we so) (wJ (uVP vo sv hm nt nw np nc) (wJ (uHM cy hm χ) (wJ (uSV cy sv sa) (wJ (Aw ac an 8 ap ab td) (wJ (La cy nd nca NL) (wJ pl (fam4 (Sv cy sa g h κ ζ L P dl δ)))))))))) s.heap := vp_perm hP hp7
  have hD : va_D A0 (wJ (uLO nt nm nd NL) (wJ (Ow no au kd na (nI t) we so) (wJ (uVP vo sv hm nt nw np nc) (wJ (uHM cy hm χ) (wJ (uSV cy sv sa) (wJ (Aw ac an 8 ap ab td) (wJ (La cy nd nca NL) (wJ pl (fam4 (Sv cy sa g h κ ζ L P dl δ)))))))))) := vd_perm hp7 hD
  have hne9 := vl_neq hno
  have hcp9 := vl_okc hnl hne9
  have hp7 : (wJ (uLO nt nm nd NL) (wJ (Ow no au kd na (nI t) we so) (wJ (uVP vo sv hm nt nw np nc) (wJ (uHM cy hm χ) (wJ (uSV cy sv sa) (wJ (Aw ac an 8 ap ab td) (wJ (La cy nd nca NL) (wJ pl (fam4 (Sv cy sa g h κ ζ L P dl δ))))))))) : va_W).Perm (wJ (uLD cy nd nca NL) (wJ (uLO nt nm nd NL) (wJ (Ow no au kd na (nI t) we so) (wJ (uVP vo sv hm nt nw np nc) (wJ (uHM cy hm χ) (wJ (uSV cy sv sa) (wJ (Aw ac an 8 ap ab td) (wJ pl (fam4 (Sv cy sa g h κ ζ L P dl δ)))))))))) := vp_swap (u := La cy nd nca NL) (u2 := uLD cy nd nca NL) (r := wJ (uLO nt nm nd NL) (wJ (Ow no au kd na (nI t) we so) (wJ (uVP vo sv hm nt nw np nc) (wJ (uHM cy hm χ) (wJ (uSV cy sv sa) (wJ (Aw ac an 8 ap ab td) (wJ pl (fam4 (Sv cy sa g h κ ζ L P dl δ))))))))) (vp_pc (fun n9 hn9 h90 => by simp only [wJ, hn9, h90, Nat.add_zero, Nat.zero_add] <;> ac_rfl)) ((List.Perm.of_eq (La_ne cy nd nca hne9))) (List.Perm.refl _)
  have hP : va_P D vwCl (wJ (uLD cy nd nca NL) (wJ (uLO nt nm nd NL) (wJ (Ow no au kd na (nI t) we so) (wJ (uVP vo sv hm nt nw np nc) (wJ (uHM cy hm χ) (wJ (uSV cy sv sa) (wJ (Aw ac an 8 ap ab td) (wJ pl (fam4 (Sv cy sa g h κ ζ L P dl δ)))))))))) s.heap := vp_perm hP hp7
  have hD : va_D A0 (wJ (uLD cy nd nca NL) (wJ (uLO nt nm nd NL) (wJ (Ow no au kd na (nI t) we so) (wJ (uVP vo sv hm nt nw np nc) (wJ (uHM cy hm χ) (wJ (uSV cy sv sa) (wJ (Aw ac an 8 ap ab td) (wJ pl (fam4 (Sv cy sa g h κ ζ L P dl δ)))))))))) := vd_perm hp7 hD
  refine lv_aload_n hx hb dX4_sendOn_19 rfl (lv_at hl 0 rfl) ?_
  refine va_get (D := D) (ci := 5) (v := .ref nt) (C := RX4) (T := TX4) (N := 6) hx hb hts hin_RX4 hown hE.1 hP 3 rfl rfl 2 (by decide) (hts (.fieldLink RX4 23 "Villagepost" "notes" "Ljava/util/ArrayList;") (by decide +kernel)) (fun _ h9 => h9) rfl dX4_sendOn_20 ?_
  refine lv_aload_n hx hb dX4_sendOn_23 rfl (lv_at hl 2 rfl) ?_
  refine va_get (D := D) (ci := 1) (v := .int (nI ab)) (C := RX0) (T := TX0) (N := 5) hx hb hts hin_RX0 hown hE.1 hP 6 rfl rfl 3 (by decide) (hts (.fieldLink RX4 240 "Villagepost$Act" "about" "I") (by decide +kernel)) (fun _ h9 => h9) rfl dX4_sendOn_24 ?_
  have hp9 : (wJ (uLD cy nd nca NL) (wJ (uLO nt nm nd NL) (wJ (Ow no au kd na (nI t) we so) (wJ (uVP vo sv hm nt nw np nc) (wJ (uHM cy hm χ) (wJ (uSV cy sv sa) (wJ (Aw ac an 8 ap ab td) (wJ pl (fam4 (Sv cy sa g h κ ζ L P dl δ))))))))) : va_W).Perm (wJ (wJ (uLO nt nm nd NL) (uLD cy nd nca NL)) (wJ (Ow no au kd na (nI t) we so) (wJ (uVP vo sv hm nt nw np nc) (wJ (uHM cy hm χ) (wJ (uSV cy sv sa) (wJ (Aw ac an 8 ap ab td) (wJ pl (fam4 (Sv cy sa g h κ ζ L P dl δ))))))))) := (vp_pc (fun n9 hn9 h90 => by simp only [wJ, hn9, h90, Nat.add_zero, Nat.zero_add] <;> ac_rfl))
  refine vj_callq (va_runV (As := [.int (nI ab)]) (rest := []) ⟨hx, hb, hml, hown, hts⟩ (kJx4a65c_get_915e3 l D cy s.heap.size nt (nI nm) nd nca NL ab no (hcp9.1) (hcp9.2) (vl_idx hno) (hno)) (cwV 1 hts gX4_sendOn_Jx4a65c_get_915e3 rfl rfl rfl (by decide +kernel) ⟨Nat.le_of_ble_eq_true rfl, Nat.le_of_ble_eq_true rfl⟩) (vg_P.preV hE hP 1 rfl rfl (vp_app.mp (vp_perm hP hp9)).1 (vd_app.mp (vd_perm hp9 hD)).1) rfl rfl hl.1 rfl (lv_room (Nat.le_of_ble_eq_true rfl)) dX4_sendOn_27 ⟨Nat.le_of_ble_eq_true rfl, Nat.le_of_ble_eq_true rfl⟩) hP hD hS hA hp9 (fun r _ H locs hr hP hD hS => ?_)
  subst hr
  have hp7 : (wJ (wJ (uLO nt nm nd NL) (uLD cy nd nca NL)) (wJ (Ow no au kd na (nI t) we so) (wJ (uVP vo sv hm nt nw np nc) (wJ (uHM cy hm χ) (wJ (uSV cy sv sa) (wJ (Aw ac an 8 ap ab td) (wJ pl (fam4 (Sv cy sa g h κ ζ L P dl δ)))))))) : va_W).Perm (wJ (uLO nt nm nd NL) (wJ (uLD cy nd nca NL) (wJ (Ow no au kd na (nI t) we so) (wJ (uVP vo sv hm nt nw np nc) (wJ (uHM cy hm χ) (wJ (uSV cy sv sa) (wJ (Aw ac an 8 ap ab td) (wJ pl (fam4 (Sv cy sa g h κ ζ L P dl δ)))))))))) := (vp_pc (fun n9 hn9 h90 => by simp only [wJ, hn9, h90, Nat.add_zero, Nat.zero_add] <;> ac_rfl))
  have hP : va_P D vwCl (wJ (uLO nt nm nd NL) (wJ (uLD cy nd nca NL) (wJ (Ow no au kd na (nI t) we so) (wJ (uVP vo sv hm nt nw np nc) (wJ (uHM cy hm χ) (wJ (uSV cy sv sa) (wJ (Aw ac an 8 ap ab td) (wJ pl (fam4 (Sv cy sa g h κ ζ L P dl δ)))))))))) H := vp_perm hP hp7
  have hD : va_D A0 (wJ (uLO nt nm nd NL) (wJ (uLD cy nd nca NL) (wJ (Ow no au kd na (nI t) we so) (wJ (uVP vo sv hm nt nw np nc) (wJ (uHM cy hm χ) (wJ (uSV cy sv sa) (wJ (Aw ac an 8 ap ab td) (wJ pl (fam4 (Sv cy sa g h κ ζ L P dl δ)))))))))) := vd_perm hp7 hD
  refine W.eq (g2 := F0 m 30 ls [.ref no]) rfl ?_
  refine va_castS hx hb hown (hts (.classLink RX4 134 RX2) (by decide +kernel)) (hE.1.1 3 _ rfl).2 (va_recv hE.1 hP (q0 := 2) (ci := 3) rfl rfl) dX4_sendOn_30 ?_
  have hp7 : (wJ (uLO nt nm nd NL) (wJ (uLD cy nd nca NL) (wJ (Ow no au kd na (nI t) we so) (wJ (uVP vo sv hm nt nw np nc) (wJ (uHM cy hm χ) (wJ (uSV cy sv sa) (wJ (Aw ac an 8 ap ab td) (wJ pl (fam4 (Sv cy sa g h κ ζ L P dl δ))))))))) : va_W).Perm (wJ (uLO nt nm nd NL) (wJ (Ow no au kd na (nI t) we so) (wJ (uVP vo sv hm nt nw np nc) (wJ (uHM cy hm χ) (wJ (uSV cy sv sa) (wJ (Aw ac an 8 ap ab td) (wJ (La cy nd nca NL) (wJ pl (fam4 (Sv cy sa g h κ ζ L P dl δ)))))))))) := vp_swap (u := uLD cy nd nca NL) (u2 := La cy nd nca NL) (r := wJ (uLO nt nm nd NL) (wJ (Ow no au kd na (nI t) we so) (wJ (uVP vo sv hm nt nw np nc) (wJ (uHM cy hm χ) (wJ (uSV cy sv sa) (wJ (Aw ac an 8 ap ab td) (wJ pl (fam4 (Sv cy sa g h κ ζ L P dl δ))))))))) (vp_pc (fun n9 hn9 h90 => by simp only [wJ, hn9, h90, Nat.add_zero, Nat.zero_add] <;> ac_rfl)) ((List.Perm.of_eq (La_ne cy nd nca hne9).symm)) (vp_pc (fun n9 hn9 h90 => by simp only [wJ, hn9, h90, Nat.add_zero, Nat.zero_add] <;> ac_rfl))
  have hP : va_P D vwCl (wJ (uLO nt nm nd NL) (wJ (Ow no au kd na (nI t) we so) (wJ (uVP vo sv hm nt nw np nc) (wJ (uHM cy hm χ) (wJ (uSV cy sv sa) (wJ (Aw ac an 8 ap ab td) (wJ (La cy nd nca NL) (wJ pl (fam4 (Sv cy sa g h κ ζ L P dl δ)))))))))) H := vp_perm hP hp7
  have hD : va_D A0 (wJ (uLO nt nm nd NL) (wJ (Ow no au kd na (nI t) we so) (wJ (uVP vo sv hm nt nw np nc) (wJ (uHM cy hm χ) (wJ (uSV cy sv sa) (wJ (Aw ac an 8 ap ab td) (wJ (La cy nd nca NL) (wJ pl (fam4 (Sv cy sa g h κ ζ L P dl δ)))))))))) := vd_perm hp7 hD
  refine lv_astore_n (lv' := [(3, .ref no), (0, .ref vo), (1, .int (nI si)), (2, .ref ac)]) hx hb dX4_sendOn_33 rfl hl (by decide) rfl (fun ls hl => ?_)
  have hl : lv_has ls 4 [(0, .ref vo), (1, .int (nI si)), (2, .ref ac), (3, .ref no)] := lv_sub hl [1, 2, 3, 0] rfl
  refine lv_aload_n hx hb dX4_sendOn_34 rfl (lv_at hl 3 rfl) ?_
  refine va_get (D := D) (ci := 3) (v := .int kd) (C := RX2) (T := TX2) (N := 6) hx hb hts hin_RX2 hown hE.1 hP 1 rfl rfl 1 (by decide) (hts (.fieldLink RX4 159 "Villagepost$Note" "kind" "I") (by decide +kernel)) (fun _ h9 => h9) rfl dX4_sendOn_35 ?_
  refine lv_if_ne (tgt := 62) hx hb dX4_sendOn_38 (by decide) (fun c9 => absurd c9 ((fun h9 => h9 hkd))) (fun _ => ?_)
  refine lv_aload_n hx hb dX4_sendOn_41 rfl (lv_at hl 3 rfl) ?_
  refine va_get (D := D) (ci := 3) (v := .int (nI t)) (C := RX2) (T := TX2) (N := 6) hx hb hts hin_RX2 hown hE.1 hP 1 rfl rfl 3 (by decide) (hts (.fieldLink RX4 243 "Villagepost$Note" "thread" "I") (by decide +kernel)) (fun _ h9 => h9) rfl dX4_sendOn_42 ?_
  refine lv_iconst (v := (-1)) hx hb dX4_sendOn_45 (by decide) ?_
  refine lv_icmp_eq (tgt := 62) hx hb dX4_sendOn_46 (by decide) (fun c9 => absurd c9 (vl_nm1 (by omega))) (fun _ => ?_)
  refine lv_aload_n hx hb dX4_sendOn_49 rfl (lv_at hl 0 rfl) ?_
  refine va_get (D := D) (ci := 5) (v := .ref hm) (C := RX4) (T := TX4) (N := 6) hx hb hts hin_RX4 hown hE.1 hP 2 rfl rfl 1 (by decide) (hts (.fieldLink RX4 16 "Villagepost" "homes" "[I") (by decide +kernel)) (fun _ h9 => h9) rfl dX4_sendOn_50 ?_
  refine lv_aload_n hx hb dX4_sendOn_53 rfl (lv_at hl 3 rfl) ?_
  refine va_get (D := D) (ci := 3) (v := .int (nI t)) (C := RX2) (T := TX2) (N := 6) hx hb hts hin_RX2 hown hE.1 hP 1 rfl rfl 3 (by decide) (hts (.fieldLink RX4 243 "Villagepost$Note" "thread" "I") (by decide +kernel)) (fun _ h9 => h9) rfl dX4_sendOn_54 ?_
  refine vg_iald hx hb hE.1 hP 3 0 rfl rfl (f := fun j => nI (χ j)) (j := t) (by omega) (by decide) dX4_sendOn_57 ?_
  refine vg_tp (nI (χ t)) (rfl) ?_
  refine lv_iload_n hx hb dX4_sendOn_58 rfl (lv_at hl 1 rfl) ?_
  refine lv_icmp_eq (tgt := 63) hx hb dX4_sendOn_59 (by decide) (fun _ => ?_) (fun c9 => absurd (congrArg nI hct) c9)
  refine lv_aload_n hx hb dX4_sendOn_63 rfl (lv_at hl 2 rfl) ?_
  refine va_get (D := D) (ci := 1) (v := .int (nI 8)) (C := RX0) (T := TX0) (N := 5) hx hb hts hin_RX0 hown hE.1 hP 5 rfl rfl 1 (by decide) (hts (.fieldLink RX4 180 "Villagepost$Act" "kind" "I") (by decide +kernel)) (fun _ h9 => h9) rfl dX4_sendOn_64 ?_
  refine lv_bipush (v := 8) hx hb dX4_sendOn_67 (by decide) ?_
  refine lv_icmp_ne (tgt := 82) hx hb dX4_sendOn_69 (by decide) (fun c9 => False.elim (by revert c9; decide)) (fun _ => ?_)
  refine lv_aload_n hx hb dX4_sendOn_72 rfl (lv_at hl 0 rfl) ?_
  refine lv_iload_n hx hb dX4_sendOn_73 rfl (lv_at hl 1 rfl) ?_
  refine lv_aload_n hx hb dX4_sendOn_74 rfl (lv_at hl 2 rfl) ?_
  refine lv_aload_n hx hb dX4_sendOn_75 rfl (lv_at hl 3 rfl) ?_
  have hp9 : (wJ (uLO nt nm nd NL) (wJ (Ow no au kd na (nI t) we so) (wJ (uVP vo sv hm nt nw np nc) (wJ (uHM cy hm χ) (wJ (uSV cy sv sa) (wJ (Aw ac an 8 ap ab td) (wJ (La cy nd nca NL) (wJ pl (fam4 (Sv cy sa g h κ ζ L P dl δ))))))))) : va_W).Perm (wJ (wJ (uVP vo sv hm nt nw np nc) (wJ (uHM cy hm χ) (wJ (uSV cy sv sa) (wJ (Ow no au kd na (nI t) we so) (wJ (Aw ac an 8 ap ab td) (wJ pl (fam4 (Sv cy sa g h κ ζ L P dl δ)))))))) (wJ (uLO nt nm nd NL) (La cy nd nca NL))) := (vp_pc (fun n9 hn9 h90 => by simp only [wJ, hn9, h90, Nat.add_zero, Nat.zero_add] <;> ac_rfl))
  refine vj_callv (va_runV (As := [.int (nI si), .ref ac, .ref no]) (rest := []) ⟨hx, hb, hml, hown, hts⟩ (kX4_sendReplyOn l D cy H.size e0 mi vo sv hm nt nw np nc χ sa no au kd na we so ac an 8 ap ab td pl g h κ ζ L P dl δ si t hnp hau ht hsi hχ hok hel hpn) (cwV 3 hts gX4_sendOn_X4_sendReplyOn rfl rfl rfl (by decide +kernel) ⟨Nat.le_of_ble_eq_true rfl, Nat.le_of_ble_eq_true rfl⟩) (vh_P.preV hE hF hZ hS (vj_free (vd_perm hp9 hD) hS hA) hP 2 rfl rfl (vp_app.mp (vp_perm hP hp9)).1 (vd_app.mp (vd_perm hp9 hD)).1) rfl rfl hl.1 rfl (lv_room (Nat.le_of_ble_eq_true rfl)) dX4_sendOn_76 ⟨Nat.le_of_ble_eq_true rfl, Nat.le_of_ble_eq_true rfl⟩) hP hD hS hA hp9 (fun h6 H locs hk6 hP hD hS => ?_)
  have hk6 : vq_ok e0 h6 L (sPk P ac (rTo2 χ (κ si) t si au np we) 4) := hk6
  have hp7 : (wJ (wJ (uVP vo sv hm nt nw np nc) (wJ (uHM cy hm χ) (wJ (uSV cy sv sa) (wJ (Ow no au kd na (nI t) (rWe χ si au we (rTo2 χ (κ si) t si au np we)) (rSo χ si au so (rTo2 χ (κ si) t si au np we))) (wJ (Aw ac an 8 ap ab td) (wJ pl (fam4 (Sv cy sa g h6 κ ζ L (sPk P ac (rTo2 χ (κ si) t si au np we) 4) dl δ)))))))) (wJ (uLO nt nm nd NL) (La cy nd nca NL)) : va_W).Perm (wJ (uVP vo sv hm nt nw np nc) (wJ (uHM cy hm χ) (wJ (uSV cy sv sa) (wJ (Ow no au kd na (nI t) (rWe χ si au we (rTo2 χ (κ si) t si au np we)) (rSo χ si au so (rTo2 χ (κ si) t si au np we))) (wJ (Aw ac an 8 ap ab td) (wJ (uLO nt nm nd NL) (wJ pl (wJ (fam4 (Sv cy sa g h6 κ ζ L (sPk P ac (rTo2 χ (κ si) t si au np we) 4) dl δ)) (La cy nd nca NL))))))))) := (vp_pc (fun n9 hn9 h90 => by simp only [wJ, hn9, h90, Nat.add_zero, Nat.zero_add] <;> ac_rfl))
  have hP : va_P D vwCl (wJ (uVP vo sv hm nt nw np nc) (wJ (uHM cy hm χ) (wJ (uSV cy sv sa) (wJ (Ow no au kd na (nI t) (rWe χ si au we (rTo2 χ (κ si) t si au np we)) (rSo χ si au so (rTo2 χ (κ si) t si au np we))) (wJ (Aw ac an 8 ap ab td) (wJ (uLO nt nm nd NL) (wJ pl (wJ (fam4 (Sv cy sa g h6 κ ζ L (sPk P ac (rTo2 χ (κ si) t si au np we) 4) dl δ)) (La cy nd nca NL))))))))) H := vp_perm hP hp7
  have hD : va_D A0 (wJ (uVP vo sv hm nt nw np nc) (wJ (uHM cy hm χ) (wJ (uSV cy sv sa) (wJ (Ow no au kd na (nI t) (rWe χ si au we (rTo2 χ (κ si) t si au np we)) (rSo χ si au so (rTo2 χ (κ si) t si au np we))) (wJ (Aw ac an 8 ap ab td) (wJ (uLO nt nm nd NL) (wJ pl (wJ (fam4 (Sv cy sa g h6 κ ζ L (sPk P ac (rTo2 χ (κ si) t si au np we) 4) dl δ)) (La cy nd nca NL))))))))) := vd_perm hp7 hD
  refine lv_goto (tgt := 91) hx hb dX4_sendOn_79 (by decide) ?_
  have hp8 : (wJ (uVP vo sv hm nt nw np nc) (wJ (uHM cy hm χ) (wJ (uSV cy sv sa) (wJ (Ow no au kd na (nI t) (rWe χ si au we (rTo2 χ (κ si) t si au np we)) (rSo χ si au so (rTo2 χ (κ si) t si au np we))) (wJ (Aw ac an 8 ap ab td) (wJ (uLO nt nm nd NL) (wJ pl (wJ (fam4 (Sv cy sa g h6 κ ζ L (sPk P ac (rTo2 χ (κ si) t si au np we) 4) dl δ)) (La cy nd nca NL)))))))) : va_W).Perm (wJ (uVP vo sv hm nt nw np nc) (wJ (uHM cy hm χ) (wJ (uSV cy sv sa) (wJ (Aw ac an 8 ap ab td) (wJ (wJ (uLO nt nm nd NL) (wJ (Ow no au kd na (nI t) (rWe χ si au we (rTo2 χ (κ si) t si au np we)) (rSo χ si au so (rTo2 χ (κ si) t si au np we))) (La cy nd nca NL))) (wJ pl (fam4 (Sv cy sa g h6 κ ζ L (sPk P ac (rTo2 χ (κ si) t si au np we) 4) dl δ)))))))) := (vp_pc (fun n9 hn9 h90 => by simp only [wJ, hn9, h90, Nat.add_zero, Nat.zero_add] <;> ac_rfl))
  have hP : va_P D vwCl (wJ (uVP vo sv hm nt nw np nc) (wJ (uHM cy hm χ) (wJ (uSV cy sv sa) (wJ (Aw ac an 8 ap ab td) (wJ (wJ (uLO nt nm nd NL) (wJ (Ow no au kd na (nI t) (rWe χ si au we (rTo2 χ (κ si) t si au np we)) (rSo χ si au so (rTo2 χ (κ si) t si au np we))) (La cy nd nca NL))) (wJ pl (fam4 (Sv cy sa g h6 κ ζ L (sPk P ac (rTo2 χ (κ si) t si au np we) 4) dl δ)))))))) H := vp_perm hP hp8
  have hD : va_D A0 (wJ (uVP vo sv hm nt nw np nc) (wJ (uHM cy hm χ) (wJ (uSV cy sv sa) (wJ (Aw ac an 8 ap ab td) (wJ (wJ (uLO nt nm nd NL) (wJ (Ow no au kd na (nI t) (rWe χ si au we (rTo2 χ (κ si) t si au np we)) (rSo χ si au so (rTo2 χ (κ si) t si au np we))) (La cy nd nca NL))) (wJ pl (fam4 (Sv cy sa g h6 κ ζ L (sPk P ac (rTo2 χ (κ si) t si au np we) 4) dl δ)))))))) := vd_perm hp8 hD
  subst hA0
  refine W.widen (k := 4) (n := 4936) (by omega) (by omega) ?_
  exact W.vret hx hb hr (fun t ht hW => ⟨⟨h6, rfl, hk6, (by rw [ht]; exact hP), hD⟩, hS.F ht⟩) hS.2.2 dX4_sendOn_91

set_option maxHeartbeats 4000000 in
set_option maxRecDepth 100000 in
theorem kX4_sendOn_n9 (l : Launch) (D : va_G) (cy : Nat → ClassId) (sz e0 mi : Nat) (vo : Nat) (sv : Nat) (hm : Nat) (nt : Nat) (nw : Nat) (np : Nat) (nc : Nat) (χ : Nat → Nat) (sa : Nat → Nat) (ac : Nat) (an : Nat) (ap : Nat) (ab : Nat) (td : Int32) (pl : va_W) (g : Nat → Nat → Nat) (h : Nat → Nat → Nat) (κ : Nat → Nat → Nat → Int32) (ζ : Nat → Nat → Nat → Int64) (L : Nat → List Nat) (P : Nat → List Nat) (dl : Nat → Nat) (δ : Nat → Nat → Int32) (si : Nat) (nm : Nat) (nd : Nat) (nca : Nat) (NL : List Nat) (no : Nat) (au : Nat) (kd : Int32) (na : Int32) (th : Int32) (we : Int32) (so : Int32) (t : Nat) (hok : vq_ok e0 h L P) (hnl : vl_ok e0 nd nca NL) (hno : NL[ab]? = some no) (hsi : si < 4) (hχ : ∀ j, j < 10 → χ j < 4) (hth : th = -1 ∨ (th = nI t ∧ t < 10)) (hcn : ¬ (kd = 0 ∧ ¬ th = -1 ∧ χ t = si)) : Met l yX4_sendOn wsX4_sendOn ({ frames := 9, cells := 4, slots := 4936, locals := 246 }) (vh_P D cy e0 mi [.ref vo, .int (nI si), .ref ac] sz (wJ (uVP vo sv hm nt nw np nc) (wJ (uHM cy hm χ) (wJ (uSV cy sv sa) (wJ (Aw ac an 9 ap ab td) (wJ (wJ (uLO nt nm nd NL) (wJ (Ow no au kd na th we so) (La cy nd nca NL))) (wJ pl (fam4 (Sv cy sa g h κ ζ L P dl δ))))))))) (vg_Qv (S := Nat → Nat → Nat) D sz (wJ (uVP vo sv hm nt nw np nc) (wJ (uHM cy hm χ) (wJ (uSV cy sv sa) (wJ (Aw ac an 9 ap ab td) (wJ (wJ (uLO nt nm nd NL) (wJ (Ow no au kd na th we so) (La cy nd nca NL))) (wJ pl (fam4 (Sv cy sa g h κ ζ L P dl δ)))))))) (fun u => vq_ok e0 u L (P)) (fun u => wJ (uVP vo sv hm nt nw np nc) (wJ (uHM cy hm χ) (wJ (uSV cy sv sa) (wJ (Aw ac an 9 ap ab td) (wJ (wJ (uLO nt nm nd NL) (wJ (Ow no au kd na th we so) (La cy nd nca NL))) (wJ pl (fam4 (Sv cy sa g u κ ζ L P dl δ))))))))) 4 4936 (va_A (wJ (uVP vo sv hm nt nw np nc) (wJ (uHM cy hm χ) (wJ (uSV cy sv sa) (wJ (Aw ac an 9 ap ab td) (wJ (wJ (uLO nt nm nd NL) (wJ (Ow no au kd na th we so) (La cy nd nca NL))) (wJ pl (fam4 (Sv cy sa g h κ ζ L P dl δ)))))))) sz) := by
  refine Met.ofW (cc := cX4_sendOn) (maxL := 4) (ret := none) (by decide) rfl ?_
  intro p e s m args below meth c s₁ BB hml hv
  obtain ⟨rfl, hsz, hP, hE, hD0, hF, hZ⟩ := hv
  have hx := BB.exec
  have hb := BB.bytes
  have hr := BB.returns
  have hts := atoms_spec (ws := wsX4_sendOn) BB.pre
  have hown : s.vm.findClass RX4 = some m.cls := findClass_of_methodNamed BB.named
  have hlocks := BB.notSynchronized
  subst hsz
  have hD := hD0.self (sz := s.heap.size)
  have hA : ∀ q : Nat, s.heap.size ≤ q → (va_A (wJ (uVP vo sv hm nt nw np nc) (wJ (uHM cy hm χ) (wJ (uSV cy sv sa) (wJ (Aw ac an 9 ap ab td) (wJ (wJ (uLO nt nm nd NL) (wJ (Ow no au kd na th we so) (La cy nd nca NL))) (wJ pl (fam4 (Sv cy sa g h κ ζ L P dl δ)))))))) s.heap.size) q := fun q h => Or.inr h
  have hS : va_S (va_A (wJ (uVP vo sv hm nt nw np nc) (wJ (uHM cy hm χ) (wJ (uSV cy sv sa) (wJ (Aw ac an 9 ap ab td) (wJ (wJ (uLO nt nm nd NL) (wJ (Ow no au kd na th we so) (La cy nd nca NL))) (wJ pl (fam4 (Sv cy sa g h κ ζ L P dl δ)))))))) s.heap.size) s.heap s.heap [] := va_S.rf
  obtain ⟨A0, hA0⟩ : ∃ A0 : Nat → Prop, A0 = va_A (wJ (uVP vo sv hm nt nw np nc) (wJ (uHM cy hm χ) (wJ (uSV cy sv sa) (wJ (Aw ac an 9 ap ab td) (wJ (wJ (uLO nt nm nd NL) (wJ (Ow no au kd na th we so) (La cy nd nca NL))) (wJ pl (fam4 (Sv cy sa g h κ ζ L P dl δ)))))))) s.heap.size := ⟨_, rfl⟩
  rw [← hA0]
  rw [← hA0] at hD hA hS hZ
  have hin_RX0 : ∀ w ∈ u_ws RX0 TX0 5, w ∈ wsX4_sendOn := by decide +kernel
  have hin_RX2 : ∀ w ∈ u_ws RX2 TX2 6, w ∈ wsX4_sendOn := by decide +kernel
  have hin_RX4 : ∀ w ∈ u_ws RX4 TX4 6, w ∈ wsX4_sendOn := by decide +kernel
  have hl := lv_entry ([.ref vo, .int (nI si), .ref ac]) (n := 4) (Nat.le_of_ble_eq_true rfl)
  rw [lg_entry_eq]
  generalize (lg_sl ([.ref vo, .int (nI si), .ref ac]) ++ List.replicate (4 - (lg_sl ([.ref vo, .int (nI si), .ref ac])).length) Slot.unset).toArray = ls at hl ⊢
  have hl : lv_has ls 4 [(0, .ref vo), (1, .int (nI si)), (2, .ref ac)] := hl
  refine lv_aload_n hx hb dX4_sendOn_0 rfl (lv_at hl 2 rfl) ?_
  refine va_get (D := D) (ci := 1) (v := .int (nI 9)) (C := RX0) (T := TX0) (N := 5) hx hb hts hin_RX0 hown hE.1 hP 3 rfl rfl 1 (by decide) (hts (.fieldLink RX4 180 "Villagepost$Act" "kind" "I") (by decide +kernel)) (fun _ h9 => h9) rfl dX4_sendOn_1 ?_
  refine lv_bipush (v := 8) hx hb dX4_sendOn_4 (by decide) ?_
  refine lv_icmp_eq (tgt := 19) hx hb dX4_sendOn_6 (by decide) (fun c9 => False.elim (by revert c9; decide)) (fun _ => ?_)
  refine lv_aload_n hx hb dX4_sendOn_9 rfl (lv_at hl 2 rfl) ?_
  refine va_get (D := D) (ci := 1) (v := .int (nI 9)) (C := RX0) (T := TX0) (N := 5) hx hb hts hin_RX0 hown hE.1 hP 3 rfl rfl 1 (by decide) (hts (.fieldLink RX4 180 "Villagepost$Act" "kind" "I") (by decide +kernel)) (fun _ h9 => h9) rfl dX4_sendOn_10 ?_
  refine lv_bipush (v := 9) hx hb dX4_sendOn_13 (by decide) ?_
  refine lv_icmp_eq (tgt := 19) hx hb dX4_sendOn_15 (by decide) (fun _ => ?_) (fun c9 => False.elim (by revert c9; decide))
  have hp7 : (wJ (uVP vo sv hm nt nw np nc) (wJ (uHM cy hm χ) (wJ (uSV cy sv sa) (wJ (Aw ac an 9 ap ab td) (wJ (wJ (uLO nt nm nd NL) (wJ (Ow no au kd na th we so) (La cy nd nca NL))) (wJ pl (fam4 (Sv cy sa g h κ ζ L P dl δ))))))) : va_W).Perm (wJ (uLO nt nm nd NL) (wJ (Ow no au kd na th we so) (wJ (uVP vo sv hm nt nw np nc) (wJ (uHM cy hm χ) (wJ (uSV cy sv sa) (wJ (Aw ac an 9 ap ab td) (wJ (La cy nd nca NL) (wJ pl (fam4 (Sv cy sa g h κ ζ L P dl δ)))))))))) := vp_swap (u := (wJ (uLO nt nm nd NL) (wJ (Ow no au kd na th we so) (La cy nd nca NL)))) (u2 := wJ (uLO nt nm nd NL) (wJ (Ow no au kd na th we so) (La cy nd nca NL))) (r := wJ (uVP vo sv hm nt nw np nc) (wJ (uHM cy hm χ) (wJ (uSV cy sv sa) (wJ (Aw ac an 9 ap ab td) (wJ pl (fam4 (Sv cy sa g h κ ζ L P dl δ))))))) (vp_pc (fun n9 hn9 h90 => by simp only [wJ, hn9, h90, Nat.add_zero, Nat.zero_add] <;> ac_rfl)) ((List.Perm.refl _)) (vp_pc (fun n9 hn9 h90 => by simp only [wJ, hn9, h90, Nat.add_zero, Nat.zero_add] <;> ac_rfl))
  have hP : va_P D vwCl (wJ (uLO nt nm nd NL) (wJ (Ow no au kd na th we so) (wJ (uVP vo sv hm nt nw np nc) (wJ (uHM cy hm χ) (wJ (uSV cy sv sa) (wJ (Aw ac an 9 ap ab td) (wJ (La cy nd nca NL) (wJ pl (fam4 (Sv cy sa g h κ ζ L P dl δ)))))))))) s.heap := vp_perm hP hp7
  have hD : va_D A0 (wJ (uLO nt nm nd NL) (wJ (Ow no au kd na th we so) (wJ (uVP vo sv hm nt nw np nc) (wJ (uHM cy hm χ) (wJ (uSV cy sv sa) (wJ (Aw ac an 9 ap ab td) (wJ (La cy nd nca NL) (wJ pl (fam4 (Sv cy sa g h κ ζ L P dl δ)))))))))) := vd_perm hp7 hD
  have hne9 := vl_neq hno
  have hcp9 := vl_okc hnl hne9
  have hp7 : (wJ (uLO nt nm nd NL) (wJ (Ow no au kd na th we so) (wJ (uVP vo sv hm nt nw np nc) (wJ (uHM cy hm χ) (wJ (uSV cy sv sa) (wJ (Aw ac an 9 ap ab td) (wJ (La cy nd nca NL) (wJ pl (fam4 (Sv cy sa g h κ ζ L P dl δ))))))))) : va_W).Perm (wJ (uLD cy nd nca NL) (wJ (uLO nt nm nd NL) (wJ (Ow no au kd na th we so) (wJ (uVP vo sv hm nt nw np nc) (wJ (uHM cy hm χ) (wJ (uSV cy sv sa) (wJ (Aw ac an 9 ap ab td) (wJ pl (fam4 (Sv cy sa g h κ ζ L P dl δ)))))))))) := vp_swap (u := La cy nd nca NL) (u2 := uLD cy nd nca NL) (r := wJ (uLO nt nm nd NL) (wJ (Ow no au kd na th we so) (wJ (uVP vo sv hm nt nw np nc) (wJ (uHM cy hm χ) (wJ (uSV cy sv sa) (wJ (Aw ac an 9 ap ab td) (wJ pl (fam4 (Sv cy sa g h κ ζ L P dl δ))))))))) (vp_pc (fun n9 hn9 h90 => by simp only [wJ, hn9, h90, Nat.add_zero, Nat.zero_add] <;> ac_rfl)) ((List.Perm.of_eq (La_ne cy nd nca hne9))) (List.Perm.refl _)
  have hP : va_P D vwCl (wJ (uLD cy nd nca NL) (wJ (uLO nt nm nd NL) (wJ (Ow no au kd na th we so) (wJ (uVP vo sv hm nt nw np nc) (wJ (uHM cy hm χ) (wJ (uSV cy sv sa) (wJ (Aw ac an 9 ap ab td) (wJ pl (fam4 (Sv cy sa g h κ ζ L P dl δ)))))))))) s.heap := vp_perm hP hp7
  have hD : va_D A0 (wJ (uLD cy nd nca NL) (wJ (uLO nt nm nd NL) (wJ (Ow no au kd na th we so) (wJ (uVP vo sv hm nt nw np nc) (wJ (uHM cy hm χ) (wJ (uSV cy sv sa) (wJ (Aw ac an 9 ap ab td) (wJ pl (fam4 (Sv cy sa g h κ ζ L P dl δ)))))))))) := vd_perm hp7 hD
  refine lv_aload_n hx hb dX4_sendOn_19 rfl (lv_at hl 0 rfl) ?_
  refine va_get (D := D) (ci := 5) (v := .ref nt) (C := RX4) (T := TX4) (N := 6) hx hb hts hin_RX4 hown hE.1 hP 3 rfl rfl 2 (by decide) (hts (.fieldLink RX4 23 "Villagepost" "notes" "Ljava/util/ArrayList;") (by decide +kernel)) (fun _ h9 => h9) rfl dX4_sendOn_20 ?_
  refine lv_aload_n hx hb dX4_sendOn_23 rfl (lv_at hl 2 rfl) ?_
  refine va_get (D := D) (ci := 1) (v := .int (nI ab)) (C := RX0) (T := TX0) (N := 5) hx hb hts hin_RX0 hown hE.1 hP 6 rfl rfl 3 (by decide) (hts (.fieldLink RX4 240 "Villagepost$Act" "about" "I") (by decide +kernel)) (fun _ h9 => h9) rfl dX4_sendOn_24 ?_
  have hp9 : (wJ (uLD cy nd nca NL) (wJ (uLO nt nm nd NL) (wJ (Ow no au kd na th we so) (wJ (uVP vo sv hm nt nw np nc) (wJ (uHM cy hm χ) (wJ (uSV cy sv sa) (wJ (Aw ac an 9 ap ab td) (wJ pl (fam4 (Sv cy sa g h κ ζ L P dl δ))))))))) : va_W).Perm (wJ (wJ (uLO nt nm nd NL) (uLD cy nd nca NL)) (wJ (Ow no au kd na th we so) (wJ (uVP vo sv hm nt nw np nc) (wJ (uHM cy hm χ) (wJ (uSV cy sv sa) (wJ (Aw ac an 9 ap ab td) (wJ pl (fam4 (Sv cy sa g h κ ζ L P dl δ))))))))) := (vp_pc (fun n9 hn9 h90 => by simp only [wJ, hn9, h90, Nat.add_zero, Nat.zero_add] <;> ac_rfl))
  refine vj_callq (va_runV (As := [.int (nI ab)]) (rest := []) ⟨hx, hb, hml, hown, hts⟩ (kJx4a65c_get_915e3 l D cy s.heap.size nt (nI nm) nd nca NL ab no (hcp9.1) (hcp9.2) (vl_idx hno) (hno)) (cwV 1 hts gX4_sendOn_Jx4a65c_get_915e3 rfl rfl rfl (by decide +kernel) ⟨Nat.le_of_ble_eq_true rfl, Nat.le_of_ble_eq_true rfl⟩) (vg_P.preV hE hP 1 rfl rfl (vp_app.mp (vp_perm hP hp9)).1 (vd_app.mp (vd_perm hp9 hD)).1) rfl rfl hl.1 rfl (lv_room (Nat.le_of_ble_eq_true rfl)) dX4_sendOn_27 ⟨Nat.le_of_ble_eq_true rfl, Nat.le_of_ble_eq_true rfl⟩) hP hD hS hA hp9 (fun r _ H locs hr hP hD hS => ?_)
  subst hr
  have hp7 : (wJ (wJ (uLO nt nm nd NL) (uLD cy nd nca NL)) (wJ (Ow no au kd na th we so) (wJ (uVP vo sv hm nt nw np nc) (wJ (uHM cy hm χ) (wJ (uSV cy sv sa) (wJ (Aw ac an 9 ap ab td) (wJ pl (fam4 (Sv cy sa g h κ ζ L P dl δ)))))))) : va_W).Perm (wJ (uLO nt nm nd NL) (wJ (uLD cy nd nca NL) (wJ (Ow no au kd na th we so) (wJ (uVP vo sv hm nt nw np nc) (wJ (uHM cy hm χ) (wJ (uSV cy sv sa) (wJ (Aw ac an 9 ap ab td) (wJ pl (fam4 (Sv cy sa g h κ ζ L P dl δ)))))))))) := (vp_pc (fun n9 hn9 h90 => by simp only [wJ, hn9, h90, Nat.add_zero, Nat.zero_add] <;> ac_rfl))
  have hP : va_P D vwCl (wJ (uLO nt nm nd NL) (wJ (uLD cy nd nca NL) (wJ (Ow no au kd na th we so) (wJ (uVP vo sv hm nt nw np nc) (wJ (uHM cy hm χ) (wJ (uSV cy sv sa) (wJ (Aw ac an 9 ap ab td) (wJ pl (fam4 (Sv cy sa g h κ ζ L P dl δ)))))))))) H := vp_perm hP hp7
  have hD : va_D A0 (wJ (uLO nt nm nd NL) (wJ (uLD cy nd nca NL) (wJ (Ow no au kd na th we so) (wJ (uVP vo sv hm nt nw np nc) (wJ (uHM cy hm χ) (wJ (uSV cy sv sa) (wJ (Aw ac an 9 ap ab td) (wJ pl (fam4 (Sv cy sa g h κ ζ L P dl δ)))))))))) := vd_perm hp7 hD
  refine W.eq (g2 := F0 m 30 ls [.ref no]) rfl ?_
  refine va_castS hx hb hown (hts (.classLink RX4 134 RX2) (by decide +kernel)) (hE.1.1 3 _ rfl).2 (va_recv hE.1 hP (q0 := 2) (ci := 3) rfl rfl) dX4_sendOn_30 ?_
  have hp7 : (wJ (uLO nt nm nd NL) (wJ (uLD cy nd nca NL) (wJ (Ow no au kd na th we so) (wJ (uVP vo sv hm nt nw np nc) (wJ (uHM cy hm χ) (wJ (uSV cy sv sa) (wJ (Aw ac an 9 ap ab td) (wJ pl (fam4 (Sv cy sa g h κ ζ L P dl δ))))))))) : va_W).Perm (wJ (uLO nt nm nd NL) (wJ (Ow no au kd na th we so) (wJ (uVP vo sv hm nt nw np nc) (wJ (uHM cy hm χ) (wJ (uSV cy sv sa) (wJ (Aw ac an 9 ap ab td) (wJ (La cy nd nca NL) (wJ pl (fam4 (Sv cy sa g h κ ζ L P dl δ)))))))))) := vp_swap (u := uLD cy nd nca NL) (u2 := La cy nd nca NL) (r := wJ (uLO nt nm nd NL) (wJ (Ow no au kd na th we so) (wJ (uVP vo sv hm nt nw np nc) (wJ (uHM cy hm χ) (wJ (uSV cy sv sa) (wJ (Aw ac an 9 ap ab td) (wJ pl (fam4 (Sv cy sa g h κ ζ L P dl δ))))))))) (vp_pc (fun n9 hn9 h90 => by simp only [wJ, hn9, h90, Nat.add_zero, Nat.zero_add] <;> ac_rfl)) ((List.Perm.of_eq (La_ne cy nd nca hne9).symm)) (vp_pc (fun n9 hn9 h90 => by simp only [wJ, hn9, h90, Nat.add_zero, Nat.zero_add] <;> ac_rfl))
  have hP : va_P D vwCl (wJ (uLO nt nm nd NL) (wJ (Ow no au kd na th we so) (wJ (uVP vo sv hm nt nw np nc) (wJ (uHM cy hm χ) (wJ (uSV cy sv sa) (wJ (Aw ac an 9 ap ab td) (wJ (La cy nd nca NL) (wJ pl (fam4 (Sv cy sa g h κ ζ L P dl δ)))))))))) H := vp_perm hP hp7
  have hD : va_D A0 (wJ (uLO nt nm nd NL) (wJ (Ow no au kd na th we so) (wJ (uVP vo sv hm nt nw np nc) (wJ (uHM cy hm χ) (wJ (uSV cy sv sa) (wJ (Aw ac an 9 ap ab td) (wJ (La cy nd nca NL) (wJ pl (fam4 (Sv cy sa g h κ ζ L P dl δ)))))))))) := vd_perm hp7 hD
  refine lv_astore_n (lv' := [(3, .ref no), (0, .ref vo), (1, .int (nI si)), (2, .ref ac)]) hx hb dX4_sendOn_33 rfl hl (by decide) rfl (fun ls hl => ?_)
  have hl : lv_has ls 4 [(0, .ref vo), (1, .int (nI si)), (2, .ref ac), (3, .ref no)] := lv_sub hl [1, 2, 3, 0] rfl
  refine lv_aload_n hx hb dX4_sendOn_34 rfl (lv_at hl 3 rfl) ?_
  refine va_get (D := D) (ci := 3) (v := .int kd) (C := RX2) (T := TX2) (N := 6) hx hb hts hin_RX2 hown hE.1 hP 1 rfl rfl 1 (by decide) (hts (.fieldLink RX4 159 "Villagepost$Note" "kind" "I") (by decide +kernel)) (fun _ h9 => h9) rfl dX4_sendOn_35 ?_
  refine lv_if_ne (tgt := 62) hx hb dX4_sendOn_38 (by decide) (fun r3 => ?_) (fun r3 => ?_)
  · have c3 := r3
    have hp8 : (wJ (uLO nt nm nd NL) (wJ (Ow no au kd na th we so) (wJ (uVP vo sv hm nt nw np nc) (wJ (uHM cy hm χ) (wJ (uSV cy sv sa) (wJ (Aw ac an 9 ap ab td) (wJ (La cy nd nca NL) (wJ pl (fam4 (Sv cy sa g h κ ζ L P dl δ))))))))) : va_W).Perm (wJ (uVP vo sv hm nt nw np nc) (wJ (uHM cy hm χ) (wJ (uSV cy sv sa) (wJ (Aw ac an 9 ap ab td) (wJ (wJ (uLO nt nm nd NL) (wJ (Ow no au kd na th we so) (La cy nd nca NL))) (wJ pl (fam4 (Sv cy sa g h κ ζ L P dl δ)))))))) := (vp_pc (fun n9 hn9 h90 => by simp only [wJ, hn9, h90, Nat.add_zero, Nat.zero_add] <;> ac_rfl))
    have hP : va_P D vwCl (wJ (uVP vo sv hm nt nw np nc) (wJ (uHM cy hm χ) (wJ (uSV cy sv sa) (wJ (Aw ac an 9 ap ab td) (wJ (wJ (uLO nt nm nd NL) (wJ (Ow no au kd na th we so) (La cy nd nca NL))) (wJ pl (fam4 (Sv cy sa g h κ ζ L P dl δ)))))))) H := vp_perm hP hp8
    have hD : va_D A0 (wJ (uVP vo sv hm nt nw np nc) (wJ (uHM cy hm χ) (wJ (uSV cy sv sa) (wJ (Aw ac an 9 ap ab td) (wJ (wJ (uLO nt nm nd NL) (wJ (Ow no au kd na th we so) (La cy nd nca NL))) (wJ pl (fam4 (Sv cy sa g h κ ζ L P dl δ)))))))) := vd_perm hp8 hD
    subst hA0
    refine W.widen (k := 4) (n := 4936) (by omega) (by omega) ?_
    exact W.vret hx hb hr (fun t ht hW => ⟨⟨h, rfl, hok, (by rw [ht]; exact hP), hD⟩, hS.F ht⟩) hS.2.2 dX4_sendOn_62
  · have c3 := r3
    refine lv_aload_n hx hb dX4_sendOn_41 rfl (lv_at hl 3 rfl) ?_
    refine va_get (D := D) (ci := 3) (v := .int th) (C := RX2) (T := TX2) (N := 6) hx hb hts hin_RX2 hown hE.1 hP 1 rfl rfl 3 (by decide) (hts (.fieldLink RX4 243 "Villagepost$Note" "thread" "I") (by decide +kernel)) (fun _ h9 => h9) rfl dX4_sendOn_42 ?_
    refine lv_iconst (v := (-1)) hx hb dX4_sendOn_45 (by decide) ?_
    refine lv_icmp_eq (tgt := 62) hx hb dX4_sendOn_46 (by decide) (fun r4 => ?_) (fun r4 => ?_)
    · have c4 := r4
      have hp8 : (wJ (uLO nt nm nd NL) (wJ (Ow no au kd na th we so) (wJ (uVP vo sv hm nt nw np nc) (wJ (uHM cy hm χ) (wJ (uSV cy sv sa) (wJ (Aw ac an 9 ap ab td) (wJ (La cy nd nca NL) (wJ pl (fam4 (Sv cy sa g h κ ζ L P dl δ))))))))) : va_W).Perm (wJ (uVP vo sv hm nt nw np nc) (wJ (uHM cy hm χ) (wJ (uSV cy sv sa) (wJ (Aw ac an 9 ap ab td) (wJ (wJ (uLO nt nm nd NL) (wJ (Ow no au kd na th we so) (La cy nd nca NL))) (wJ pl (fam4 (Sv cy sa g h κ ζ L P dl δ)))))))) := (vp_pc (fun n9 hn9 h90 => by simp only [wJ, hn9, h90, Nat.add_zero, Nat.zero_add] <;> ac_rfl))
      have hP : va_P D vwCl (wJ (uVP vo sv hm nt nw np nc) (wJ (uHM cy hm χ) (wJ (uSV cy sv sa) (wJ (Aw ac an 9 ap ab td) (wJ (wJ (uLO nt nm nd NL) (wJ (Ow no au kd na th we so) (La cy nd nca NL))) (wJ pl (fam4 (Sv cy sa g h κ ζ L P dl δ)))))))) H := vp_perm hP hp8
      have hD : va_D A0 (wJ (uVP vo sv hm nt nw np nc) (wJ (uHM cy hm χ) (wJ (uSV cy sv sa) (wJ (Aw ac an 9 ap ab td) (wJ (wJ (uLO nt nm nd NL) (wJ (Ow no au kd na th we so) (La cy nd nca NL))) (wJ pl (fam4 (Sv cy sa g h κ ζ L P dl δ)))))))) := vd_perm hp8 hD
      subst hA0
      refine W.widen (k := 4) (n := 4936) (by omega) (by omega) ?_
      exact W.vret hx hb hr (fun t ht hW => ⟨⟨h, rfl, hok, (by rw [ht]; exact hP), hD⟩, hS.F ht⟩) hS.2.2 dX4_sendOn_62
    · have c4 := r4
      obtain ⟨rfl, ht10⟩ := hth.resolve_left r4
      have hχt := hχ t ht10
      refine lv_aload_n hx hb dX4_sendOn_49 rfl (lv_at hl 0 rfl) ?_
      refine va_get (D := D) (ci := 5) (v := .ref hm) (C := RX4) (T := TX4) (N := 6) hx hb hts hin_RX4 hown hE.1 hP 2 rfl rfl 1 (by decide) (hts (.fieldLink RX4 16 "Villagepost" "homes" "[I") (by decide +kernel)) (fun _ h9 => h9) rfl dX4_sendOn_50 ?_
      refine lv_aload_n hx hb dX4_sendOn_53 rfl (lv_at hl 3 rfl) ?_
      refine va_get (D := D) (ci := 3) (v := .int (nI t)) (C := RX2) (T := TX2) (N := 6) hx hb hts hin_RX2 hown hE.1 hP 1 rfl rfl 3 (by decide) (hts (.fieldLink RX4 243 "Villagepost$Note" "thread" "I") (by decide +kernel)) (fun _ h9 => h9) rfl dX4_sendOn_54 ?_
      refine vg_iald hx hb hE.1 hP 3 0 rfl rfl (f := fun j => nI (χ j)) (j := t) (by omega) (by decide) dX4_sendOn_57 ?_
      refine vg_tp (nI (χ t)) (rfl) ?_
      refine lv_iload_n hx hb dX4_sendOn_58 rfl (lv_at hl 1 rfl) ?_
      refine lv_icmp_eq (tgt := 63) hx hb dX4_sendOn_59 (by decide) (fun r5 => ?_) (fun r5 => ?_)
      · have c5 : χ t = si := (nI_eq (a := χ t) (b := si) (by omega) (by omega)).mp r5
        exact absurd ⟨by assumption, by assumption, by assumption⟩ hcn
      · have c5 : ¬ χ t = si := fun q => r5 ((nI_eq (a := χ t) (b := si) (by omega) (by omega)).mpr q)
        have hp8 : (wJ (uLO nt nm nd NL) (wJ (Ow no au kd na (nI t) we so) (wJ (uVP vo sv hm nt nw np nc) (wJ (uHM cy hm χ) (wJ (uSV cy sv sa) (wJ (Aw ac an 9 ap ab td) (wJ (La cy nd nca NL) (wJ pl (fam4 (Sv cy sa g h κ ζ L P dl δ))))))))) : va_W).Perm (wJ (uVP vo sv hm nt nw np nc) (wJ (uHM cy hm χ) (wJ (uSV cy sv sa) (wJ (Aw ac an 9 ap ab td) (wJ (wJ (uLO nt nm nd NL) (wJ (Ow no au kd na (nI t) we so) (La cy nd nca NL))) (wJ pl (fam4 (Sv cy sa g h κ ζ L P dl δ)))))))) := (vp_pc (fun n9 hn9 h90 => by simp only [wJ, hn9, h90, Nat.add_zero, Nat.zero_add] <;> ac_rfl))
        have hP : va_P D vwCl (wJ (uVP vo sv hm nt nw np nc) (wJ (uHM cy hm χ) (wJ (uSV cy sv sa) (wJ (Aw ac an 9 ap ab td) (wJ (wJ (uLO nt nm nd NL) (wJ (Ow no au kd na (nI t) we so) (La cy nd nca NL))) (wJ pl (fam4 (Sv cy sa g h κ ζ L P dl δ)))))))) H := vp_perm hP hp8
        have hD : va_D A0 (wJ (uVP vo sv hm nt nw np nc) (wJ (uHM cy hm χ) (wJ (uSV cy sv sa) (wJ (Aw ac an 9 ap ab td) (wJ (wJ (uLO nt nm nd NL) (wJ (Ow no au kd na (nI t) we so) (La cy nd nca NL))) (wJ pl (fam4 (Sv cy sa g h κ ζ L P dl δ)))))))) := vd_perm hp8 hD
        subst hA0
        refine W.widen (k := 4) (n := 4936) (by omega) (by omega) ?_
        exact W.vret hx hb hr (fun t ht hW => ⟨⟨h, rfl, hok, (by rw [ht]; exact hP), hD⟩, hS.F ht⟩) hS.2.2 dX4_sendOn_62

set_option maxHeartbeats 4000000 in
set_option maxRecDepth 100000 in
theorem kX4_sendOn_y9 (l : Launch) (D : va_G) (cy : Nat → ClassId) (sz e0 mi : Nat) (vo : Nat) (sv : Nat) (hm : Nat) (nt : Nat) (nw : Nat) (np : Nat) (nc : Nat) (χ : Nat → Nat) (sa : Nat → Nat) (ac : Nat) (an : Nat) (ap : Nat) (ab : Nat) (td : Int32) (pl : va_W) (g : Nat → Nat → Nat) (h : Nat → Nat → Nat) (κ : Nat → Nat → Nat → Int32) (ζ : Nat → Nat → Nat → Int64) (L : Nat → List Nat) (P : Nat → List Nat) (dl : Nat → Nat) (δ : Nat → Nat → Int32) (si : Nat) (nm : Nat) (nd : Nat) (nca : Nat) (NL : List Nat) (no : Nat) (au : Nat) (kd : Int32) (na : Int32) (we : Int32) (so : Int32) (t : Nat) (hnp : np ≤ 10) (hau : au < 10) (ht : t < 10) (hχ : ∀ j, j < 10 → χ j < 4) (hok : vq_ok e0 h L P) (hel : vq_el L P (Aw ac an 9 ap ab td ++ pl)) (hpn : vq_len P 1023) (hnl : vl_ok e0 nd nca NL) (hno : NL[ab]? = some no) (hsi : si < 4) (hkd : kd = 0) (hct : χ t = si) : Met l yX4_sendOn wsX4_sendOn ({ frames := 9, cells := 4, slots := 4936, locals := 246 }) (vh_P D cy e0 mi [.ref vo, .int (nI si), .ref ac] sz (wJ (uVP vo sv hm nt nw np nc) (wJ (uHM cy hm χ) (wJ (uSV cy sv sa) (wJ (Aw ac an 9 ap ab td) (wJ (wJ (uLO nt nm nd NL) (wJ (Ow no au kd na (nI t) we so) (La cy nd nca NL))) (wJ pl (fam4 (Sv cy sa g h κ ζ L P dl δ))))))))) (vg_Qv (S := Nat → Nat → Nat) D sz (wJ (uVP vo sv hm nt nw np nc) (wJ (uHM cy hm χ) (wJ (uSV cy sv sa) (wJ (Aw ac an 9 ap ab td) (wJ (wJ (uLO nt nm nd NL) (wJ (Ow no au kd na (nI t) we so) (La cy nd nca NL))) (wJ pl (fam4 (Sv cy sa g h κ ζ L P dl δ)))))))) (fun u => vq_ok e0 u L (sPk P ac so 4)) (fun u => wJ (uVP vo sv hm nt nw np nc) (wJ (uHM cy hm χ) (wJ (uSV cy sv sa) (wJ (Aw ac an 9 ap ab td) (wJ (wJ (uLO nt nm nd NL) (wJ (Ow no au kd na (nI t) we so) (La cy nd nca NL))) (wJ pl (fam4 (Sv cy sa g u κ ζ L (sPk P ac so 4) dl δ))))))))) 4 4936 (va_A (wJ (uVP vo sv hm nt nw np nc) (wJ (uHM cy hm χ) (wJ (uSV cy sv sa) (wJ (Aw ac an 9 ap ab td) (wJ (wJ (uLO nt nm nd NL) (wJ (Ow no au kd na (nI t) we so) (La cy nd nca NL))) (wJ pl (fam4 (Sv cy sa g h κ ζ L P dl δ)))))))) sz) := by
  refine Met.ofW (cc := cX4_sendOn) (maxL := 4) (ret := none) (by decide) rfl ?_
  intro p e s m args below meth c s₁ BB hml hv
  obtain ⟨rfl, hsz, hP, hE, hD0, hF, hZ⟩ := hv
  have hx := BB.exec
  have hb := BB.bytes
  have hr := BB.returns
  have hts := atoms_spec (ws := wsX4_sendOn) BB.pre
  have hown : s.vm.findClass RX4 = some m.cls := findClass_of_methodNamed BB.named
  have hlocks := BB.notSynchronized
  subst hsz
  have hD := hD0.self (sz := s.heap.size)
  have hA : ∀ q : Nat, s.heap.size ≤ q → (va_A (wJ (uVP vo sv hm nt nw np nc) (wJ (uHM cy hm χ) (wJ (uSV cy sv sa) (wJ (Aw ac an 9 ap ab td) (wJ (wJ (uLO nt nm nd NL) (wJ (Ow no au kd na (nI t) we so) (La cy nd nca NL))) (wJ pl (fam4 (Sv cy sa g h κ ζ L P dl δ)))))))) s.heap.size) q := fun q h => Or.inr h
  have hS : va_S (va_A (wJ (uVP vo sv hm nt nw np nc) (wJ (uHM cy hm χ) (wJ (uSV cy sv sa) (wJ (Aw ac an 9 ap ab td) (wJ (wJ (uLO nt nm nd NL) (wJ (Ow no au kd na (nI t) we so) (La cy nd nca NL))) (wJ pl (fam4 (Sv cy sa g h κ ζ L P dl δ)))))))) s.heap.size) s.heap s.heap [] := va_S.rf
  obtain ⟨A0, hA0⟩ : ∃ A0 : Nat → Prop, A0 = va_A (wJ (uVP vo sv hm nt nw np nc) (wJ (uHM cy hm χ) (wJ (uSV cy sv sa) (wJ (Aw ac an 9 ap ab td) (wJ (wJ (uLO nt nm nd NL) (wJ (Ow no au kd na (nI t) we so) (La cy nd nca NL))) (wJ pl (fam4 (Sv cy sa g h κ ζ L P dl δ)))))))) s.heap.size := ⟨_, rfl⟩
  rw [← hA0]
  rw [← hA0] at hD hA hS hZ
  have hin_RX0 : ∀ w ∈ u_ws RX0 TX0 5, w ∈ wsX4_sendOn := by decide +kernel
  have hin_RX2 : ∀ w ∈ u_ws RX2 TX2 6, w ∈ wsX4_sendOn := by decide +kernel
  have hin_RX4 : ∀ w ∈ u_ws RX4 TX4 6, w ∈ wsX4_sendOn := by decide +kernel
  have hl := lv_entry ([.ref vo, .int (nI si), .ref ac]) (n := 4) (Nat.le_of_ble_eq_true rfl)
  rw [lg_entry_eq]
  generalize (lg_sl ([.ref vo, .int (nI si), .ref ac]) ++ List.replicate (4 - (lg_sl ([.ref vo, .int (nI si), .ref ac])).length) Slot.unset).toArray = ls at hl ⊢
  have hl : lv_has ls 4 [(0, .ref vo), (1, .int (nI si)), (2, .ref ac)] := hl
  refine lv_aload_n hx hb dX4_sendOn_0 rfl (lv_at hl 2 rfl) ?_
  refine va_get (D := D) (ci := 1) (v := .int (nI 9)) (C := RX0) (T := TX0) (N := 5) hx hb hts hin_RX0 hown hE.1 hP 3 rfl rfl 1 (by decide) (hts (.fieldLink RX4 180 "Villagepost$Act" "kind" "I") (by decide +kernel)) (fun _ h9 => h9) rfl dX4_sendOn_1 ?_
  refine lv_bipush (v := 8) hx hb dX4_sendOn_4 (by decide) ?_
  refine lv_icmp_eq (tgt := 19) hx hb dX4_sendOn_6 (by decide) (fun c9 => False.elim (by revert c9; decide)) (fun _ => ?_)
  refine lv_aload_n hx hb dX4_sendOn_9 rfl (lv_at hl 2 rfl) ?_
  refine va_get (D := D) (ci := 1) (v := .int (nI 9)) (C := RX0) (T := TX0) (N := 5) hx hb hts hin_RX0 hown hE.1 hP 3 rfl rfl 1 (by decide) (hts (.fieldLink RX4 180 "Villagepost$Act" "kind" "I") (by decide +kernel)) (fun _ h9 => h9) rfl dX4_sendOn_10 ?_
  refine lv_bipush (v := 9) hx hb dX4_sendOn_13 (by decide) ?_
  refine lv_icmp_eq (tgt := 19) hx hb dX4_sendOn_15 (by decide) (fun _ => ?_) (fun c9 => False.elim (by revert c9; decide))
  have hp7 : (wJ (uVP vo sv hm nt nw np nc) (wJ (uHM cy hm χ) (wJ (uSV cy sv sa) (wJ (Aw ac an 9 ap ab td) (wJ (wJ (uLO nt nm nd NL) (wJ (Ow no au kd na (nI t) we so) (La cy nd nca NL))) (wJ pl (fam4 (Sv cy sa g h κ ζ L P dl δ))))))) : va_W).Perm (wJ (uLO nt nm nd NL) (wJ (Ow no au kd na (nI t) we so) (wJ (uVP vo sv hm nt nw np nc) (wJ (uHM cy hm χ) (wJ (uSV cy sv sa) (wJ (Aw ac an 9 ap ab td) (wJ (La cy nd nca NL) (wJ pl (fam4 (Sv cy sa g h κ ζ L P dl δ)))))))))) := vp_swap (u := (wJ (uLO nt nm nd NL) (wJ (Ow no au kd na (nI t) we so) (La cy nd nca NL)))) (u2 := wJ (uLO nt nm nd NL) (wJ (Ow no au kd na (nI t) we so) (La cy nd nca NL))) (r := wJ (uVP vo sv hm nt nw np nc) (wJ (uHM cy hm χ) (wJ (uSV cy sv sa) (wJ (Aw ac an 9 ap ab td) (wJ pl (fam4 (Sv cy sa g h κ ζ L P dl δ))))))) (vp_pc (fun n9 hn9 h90 => by simp only [wJ, hn9, h90, Nat.add_zero, Nat.zero_add] <;> ac_rfl)) ((List.Perm.refl _)) (vp_pc (fun n9 hn9 h90 => by simp only [wJ, hn9, h90, Nat.add_zero, Nat.zero_add] <;> ac_rfl))
  have hP : va_P D vwCl (wJ (uLO nt nm nd NL) (wJ (Ow no au kd na (nI t) we so) (wJ (uVP vo sv hm nt nw np nc) (wJ (uHM cy hm χ) (wJ (uSV cy sv sa) (wJ (Aw ac an 9 ap ab td) (wJ (La cy nd nca NL) (wJ pl (fam4 (Sv cy sa g h κ ζ L P dl δ)))))))))) s.heap := vp_perm hP hp7
  have hD : va_D A0 (wJ (uLO nt nm nd NL) (wJ (Ow no au kd na (nI t) we so) (wJ (uVP vo sv hm nt nw np nc) (wJ (uHM cy hm χ) (wJ (uSV cy sv sa) (wJ (Aw ac an 9 ap ab td) (wJ (La cy nd nca NL) (wJ pl (fam4 (Sv cy sa g h κ ζ L P dl δ)))))))))) := vd_perm hp7 hD
  have hne9 := vl_neq hno
  have hcp9 := vl_okc hnl hne9
  have hp7 : (wJ (uLO nt nm nd NL) (wJ (Ow no au kd na (nI t) we so) (wJ (uVP vo sv hm nt nw np nc) (wJ (uHM cy hm χ) (wJ (uSV cy sv sa) (wJ (Aw ac an 9 ap ab td) (wJ (La cy nd nca NL) (wJ pl (fam4 (Sv cy sa g h κ ζ L P dl δ))))))))) : va_W).Perm (wJ (uLD cy nd nca NL) (wJ (uLO nt nm nd NL) (wJ (Ow no au kd na (nI t) we so) (wJ (uVP vo sv hm nt nw np nc) (wJ (uHM cy hm χ) (wJ (uSV cy sv sa) (wJ (Aw ac an 9 ap ab td) (wJ pl (fam4 (Sv cy sa g h κ ζ L P dl δ)))))))))) := vp_swap (u := La cy nd nca NL) (u2 := uLD cy nd nca NL) (r := wJ (uLO nt nm nd NL) (wJ (Ow no au kd na (nI t) we so) (wJ (uVP vo sv hm nt nw np nc) (wJ (uHM cy hm χ) (wJ (uSV cy sv sa) (wJ (Aw ac an 9 ap ab td) (wJ pl (fam4 (Sv cy sa g h κ ζ L P dl δ))))))))) (vp_pc (fun n9 hn9 h90 => by simp only [wJ, hn9, h90, Nat.add_zero, Nat.zero_add] <;> ac_rfl)) ((List.Perm.of_eq (La_ne cy nd nca hne9))) (List.Perm.refl _)
  have hP : va_P D vwCl (wJ (uLD cy nd nca NL) (wJ (uLO nt nm nd NL) (wJ (Ow no au kd na (nI t) we so) (wJ (uVP vo sv hm nt nw np nc) (wJ (uHM cy hm χ) (wJ (uSV cy sv sa) (wJ (Aw ac an 9 ap ab td) (wJ pl (fam4 (Sv cy sa g h κ ζ L P dl δ)))))))))) s.heap := vp_perm hP hp7
  have hD : va_D A0 (wJ (uLD cy nd nca NL) (wJ (uLO nt nm nd NL) (wJ (Ow no au kd na (nI t) we so) (wJ (uVP vo sv hm nt nw np nc) (wJ (uHM cy hm χ) (wJ (uSV cy sv sa) (wJ (Aw ac an 9 ap ab td) (wJ pl (fam4 (Sv cy sa g h κ ζ L P dl δ)))))))))) := vd_perm hp7 hD
  refine lv_aload_n hx hb dX4_sendOn_19 rfl (lv_at hl 0 rfl) ?_
  refine va_get (D := D) (ci := 5) (v := .ref nt) (C := RX4) (T := TX4) (N := 6) hx hb hts hin_RX4 hown hE.1 hP 3 rfl rfl 2 (by decide) (hts (.fieldLink RX4 23 "Villagepost" "notes" "Ljava/util/ArrayList;") (by decide +kernel)) (fun _ h9 => h9) rfl dX4_sendOn_20 ?_
  refine lv_aload_n hx hb dX4_sendOn_23 rfl (lv_at hl 2 rfl) ?_
  refine va_get (D := D) (ci := 1) (v := .int (nI ab)) (C := RX0) (T := TX0) (N := 5) hx hb hts hin_RX0 hown hE.1 hP 6 rfl rfl 3 (by decide) (hts (.fieldLink RX4 240 "Villagepost$Act" "about" "I") (by decide +kernel)) (fun _ h9 => h9) rfl dX4_sendOn_24 ?_
  have hp9 : (wJ (uLD cy nd nca NL) (wJ (uLO nt nm nd NL) (wJ (Ow no au kd na (nI t) we so) (wJ (uVP vo sv hm nt nw np nc) (wJ (uHM cy hm χ) (wJ (uSV cy sv sa) (wJ (Aw ac an 9 ap ab td) (wJ pl (fam4 (Sv cy sa g h κ ζ L P dl δ))))))))) : va_W).Perm (wJ (wJ (uLO nt nm nd NL) (uLD cy nd nca NL)) (wJ (Ow no au kd na (nI t) we so) (wJ (uVP vo sv hm nt nw np nc) (wJ (uHM cy hm χ) (wJ (uSV cy sv sa) (wJ (Aw ac an 9 ap ab td) (wJ pl (fam4 (Sv cy sa g h κ ζ L P dl δ))))))))) := (vp_pc (fun n9 hn9 h90 => by simp only [wJ, hn9, h90, Nat.add_zero, Nat.zero_add] <;> ac_rfl))
  refine vj_callq (va_runV (As := [.int (nI ab)]) (rest := []) ⟨hx, hb, hml, hown, hts⟩ (kJx4a65c_get_915e3 l D cy s.heap.size nt (nI nm) nd nca NL ab no (hcp9.1) (hcp9.2) (vl_idx hno) (hno)) (cwV 1 hts gX4_sendOn_Jx4a65c_get_915e3 rfl rfl rfl (by decide +kernel) ⟨Nat.le_of_ble_eq_true rfl, Nat.le_of_ble_eq_true rfl⟩) (vg_P.preV hE hP 1 rfl rfl (vp_app.mp (vp_perm hP hp9)).1 (vd_app.mp (vd_perm hp9 hD)).1) rfl rfl hl.1 rfl (lv_room (Nat.le_of_ble_eq_true rfl)) dX4_sendOn_27 ⟨Nat.le_of_ble_eq_true rfl, Nat.le_of_ble_eq_true rfl⟩) hP hD hS hA hp9 (fun r _ H locs hr hP hD hS => ?_)
  subst hr
  have hp7 : (wJ (wJ (uLO nt nm nd NL) (uLD cy nd nca NL)) (wJ (Ow no au kd na (nI t) we so) (wJ (uVP vo sv hm nt nw np nc) (wJ (uHM cy hm χ) (wJ (uSV cy sv sa) (wJ (Aw ac an 9 ap ab td) (wJ pl (fam4 (Sv cy sa g h κ ζ L P dl δ)))))))) : va_W).Perm (wJ (uLO nt nm nd NL) (wJ (uLD cy nd nca NL) (wJ (Ow no au kd na (nI t) we so) (wJ (uVP vo sv hm nt nw np nc) (wJ (uHM cy hm χ) (wJ (uSV cy sv sa) (wJ (Aw ac an 9 ap ab td) (wJ pl (fam4 (Sv cy sa g h κ ζ L P dl δ)))))))))) := (vp_pc (fun n9 hn9 h90 => by simp only [wJ, hn9, h90, Nat.add_zero, Nat.zero_add] <;> ac_rfl))
  have hP : va_P D vwCl (wJ (uLO nt nm nd NL) (wJ (uLD cy nd nca NL) (wJ (Ow no au kd na (nI t) we so) (wJ (uVP vo sv hm nt nw np nc) (wJ (uHM cy hm χ) (wJ (uSV cy sv sa) (wJ (Aw ac an 9 ap ab td) (wJ pl (fam4 (Sv cy sa g h κ ζ L P dl δ)))))))))) H := vp_perm hP hp7
  have hD : va_D A0 (wJ (uLO nt nm nd NL) (wJ (uLD cy nd nca NL) (wJ (Ow no au kd na (nI t) we so) (wJ (uVP vo sv hm nt nw np nc) (wJ (uHM cy hm χ) (wJ (uSV cy sv sa) (wJ (Aw ac an 9 ap ab td) (wJ pl (fam4 (Sv cy sa g h κ ζ L P dl δ)))))))))) := vd_perm hp7 hD
  refine W.eq (g2 := F0 m 30 ls [.ref no]) rfl ?_
  refine va_castS hx hb hown (hts (.classLink RX4 134 RX2) (by decide +kernel)) (hE.1.1 3 _ rfl).2 (va_recv hE.1 hP (q0 := 2) (ci := 3) rfl rfl) dX4_sendOn_30 ?_
  have hp7 : (wJ (uLO nt nm nd NL) (wJ (uLD cy nd nca NL) (wJ (Ow no au kd na (nI t) we so) (wJ (uVP vo sv hm nt nw np nc) (wJ (uHM cy hm χ) (wJ (uSV cy sv sa) (wJ (Aw ac an 9 ap ab td) (wJ pl (fam4 (Sv cy sa g h κ ζ L P dl δ))))))))) : va_W).Perm (wJ (uLO nt nm nd NL) (wJ (Ow no au kd na (nI t) we so) (wJ (uVP vo sv hm nt nw np nc) (wJ (uHM cy hm χ) (wJ (uSV cy sv sa) (wJ (Aw ac an 9 ap ab td) (wJ (La cy nd nca NL) (wJ pl (fam4 (Sv cy sa g h κ ζ L P dl δ)))))))))) := vp_swap (u := uLD cy nd nca NL) (u2 := La cy nd nca NL) (r := wJ (uLO nt nm nd NL) (wJ (Ow no au kd na (nI t) we so) (wJ (uVP vo sv hm nt nw np nc) (wJ (uHM cy hm χ) (wJ (uSV cy sv sa) (wJ (Aw ac an 9 ap ab td) (wJ pl (fam4 (Sv cy sa g h κ ζ L P dl δ))))))))) (vp_pc (fun n9 hn9 h90 => by simp only [wJ, hn9, h90, Nat.add_zero, Nat.zero_add] <;> ac_rfl)) ((List.Perm.of_eq (La_ne cy nd nca hne9).symm)) (vp_pc (fun n9 hn9 h90 => by simp only [wJ, hn9, h90, Nat.add_zero, Nat.zero_add] <;> ac_rfl))
  have hP : va_P D vwCl (wJ (uLO nt nm nd NL) (wJ (Ow no au kd na (nI t) we so) (wJ (uVP vo sv hm nt nw np nc) (wJ (uHM cy hm χ) (wJ (uSV cy sv sa) (wJ (Aw ac an 9 ap ab td) (wJ (La cy nd nca NL) (wJ pl (fam4 (Sv cy sa g h κ ζ L P dl δ)))))))))) H := vp_perm hP hp7
  have hD : va_D A0 (wJ (uLO nt nm nd NL) (wJ (Ow no au kd na (nI t) we so) (wJ (uVP vo sv hm nt nw np nc) (wJ (uHM cy hm χ) (wJ (uSV cy sv sa) (wJ (Aw ac an 9 ap ab td) (wJ (La cy nd nca NL) (wJ pl (fam4 (Sv cy sa g h κ ζ L P dl δ)))))))))) := vd_perm hp7 hD
  refine lv_astore_n (lv' := [(3, .ref no), (0, .ref vo), (1, .int (nI si)), (2, .ref ac)]) hx hb dX4_sendOn_33 rfl hl (by decide) rfl (fun ls hl => ?_)
  have hl : lv_has ls 4 [(0, .ref vo), (1, .int (nI si)), (2, .ref ac), (3, .ref no)] := lv_sub hl [1, 2, 3, 0] rfl
  refine lv_aload_n hx hb dX4_sendOn_34 rfl (lv_at hl 3 rfl) ?_
  refine va_get (D := D) (ci := 3) (v := .int kd) (C := RX2) (T := TX2) (N := 6) hx hb hts hin_RX2 hown hE.1 hP 1 rfl rfl 1 (by decide) (hts (.fieldLink RX4 159 "Villagepost$Note" "kind" "I") (by decide +kernel)) (fun _ h9 => h9) rfl dX4_sendOn_35 ?_
  refine lv_if_ne (tgt := 62) hx hb dX4_sendOn_38 (by decide) (fun c9 => absurd c9 ((fun h9 => h9 hkd))) (fun _ => ?_)
  refine lv_aload_n hx hb dX4_sendOn_41 rfl (lv_at hl 3 rfl) ?_
  refine va_get (D := D) (ci := 3) (v := .int (nI t)) (C := RX2) (T := TX2) (N := 6) hx hb hts hin_RX2 hown hE.1 hP 1 rfl rfl 3 (by decide) (hts (.fieldLink RX4 243 "Villagepost$Note" "thread" "I") (by decide +kernel)) (fun _ h9 => h9) rfl dX4_sendOn_42 ?_
  refine lv_iconst (v := (-1)) hx hb dX4_sendOn_45 (by decide) ?_
  refine lv_icmp_eq (tgt := 62) hx hb dX4_sendOn_46 (by decide) (fun c9 => absurd c9 (vl_nm1 (by omega))) (fun _ => ?_)
  refine lv_aload_n hx hb dX4_sendOn_49 rfl (lv_at hl 0 rfl) ?_
  refine va_get (D := D) (ci := 5) (v := .ref hm) (C := RX4) (T := TX4) (N := 6) hx hb hts hin_RX4 hown hE.1 hP 2 rfl rfl 1 (by decide) (hts (.fieldLink RX4 16 "Villagepost" "homes" "[I") (by decide +kernel)) (fun _ h9 => h9) rfl dX4_sendOn_50 ?_
  refine lv_aload_n hx hb dX4_sendOn_53 rfl (lv_at hl 3 rfl) ?_
  refine va_get (D := D) (ci := 3) (v := .int (nI t)) (C := RX2) (T := TX2) (N := 6) hx hb hts hin_RX2 hown hE.1 hP 1 rfl rfl 3 (by decide) (hts (.fieldLink RX4 243 "Villagepost$Note" "thread" "I") (by decide +kernel)) (fun _ h9 => h9) rfl dX4_sendOn_54 ?_
  refine vg_iald hx hb hE.1 hP 3 0 rfl rfl (f := fun j => nI (χ j)) (j := t) (by omega) (by decide) dX4_sendOn_57 ?_
  refine vg_tp (nI (χ t)) (rfl) ?_
  refine lv_iload_n hx hb dX4_sendOn_58 rfl (lv_at hl 1 rfl) ?_
  refine lv_icmp_eq (tgt := 63) hx hb dX4_sendOn_59 (by decide) (fun _ => ?_) (fun c9 => absurd (congrArg nI hct) c9)
  refine lv_aload_n hx hb dX4_sendOn_63 rfl (lv_at hl 2 rfl) ?_
  refine va_get (D := D) (ci := 1) (v := .int (nI 9)) (C := RX0) (T := TX0) (N := 5) hx hb hts hin_RX0 hown hE.1 hP 5 rfl rfl 1 (by decide) (hts (.fieldLink RX4 180 "Villagepost$Act" "kind" "I") (by decide +kernel)) (fun _ h9 => h9) rfl dX4_sendOn_64 ?_
  refine lv_bipush (v := 8) hx hb dX4_sendOn_67 (by decide) ?_
  refine lv_icmp_ne (tgt := 82) hx hb dX4_sendOn_69 (by decide) (fun _ => ?_) (fun c9 => False.elim (by revert c9; decide))
  refine lv_aload_n hx hb dX4_sendOn_82 rfl (lv_at hl 0 rfl) ?_
  refine lv_aload_n hx hb dX4_sendOn_83 rfl (lv_at hl 2 rfl) ?_
  refine lv_aload_n hx hb dX4_sendOn_84 rfl (lv_at hl 3 rfl) ?_
  refine va_get (D := D) (ci := 3) (v := .int so) (C := RX2) (T := TX2) (N := 6) hx hb hts hin_RX2 hown hE.1 hP 1 rfl rfl 5 (by decide) (hts (.fieldLink RX4 250 "Villagepost$Note" "sentOn" "I") (by decide +kernel)) (fun _ h9 => h9) rfl dX4_sendOn_85 ?_
  have hp9 : (wJ (uLO nt nm nd NL) (wJ (Ow no au kd na (nI t) we so) (wJ (uVP vo sv hm nt nw np nc) (wJ (uHM cy hm χ) (wJ (uSV cy sv sa) (wJ (Aw ac an 9 ap ab td) (wJ (La cy nd nca NL) (wJ pl (fam4 (Sv cy sa g h κ ζ L P dl δ))))))))) : va_W).Perm (wJ (wJ (uVP vo sv hm nt nw np nc) (wJ (uSV cy sv sa) (wJ (Aw ac an 9 ap ab td) (wJ pl (fam4 (Sv cy sa g h κ ζ L P dl δ)))))) (wJ (uLO nt nm nd NL) (wJ (Ow no au kd na (nI t) we so) (wJ (uHM cy hm χ) (La cy nd nca NL))))) := (vp_pc (fun n9 hn9 h90 => by simp only [wJ, hn9, h90, Nat.add_zero, Nat.zero_add] <;> ac_rfl))
  refine vj_callv (va_runV (As := [.ref ac, .int so]) (rest := []) ⟨hx, hb, hml, hown, hts⟩ (kX4_send l D cy H.size e0 mi vo sv hm nt nw np nc sa ac an 9 ap ab td pl g h κ ζ L P dl δ so hok hel hpn) (cwV 2 hts gX4_sendOn_X4_send rfl rfl rfl (by decide +kernel) ⟨Nat.le_of_ble_eq_true rfl, Nat.le_of_ble_eq_true rfl⟩) (vh_P.preV hE hF hZ hS (vj_free (vd_perm hp9 hD) hS hA) hP 2 rfl rfl (vp_app.mp (vp_perm hP hp9)).1 (vd_app.mp (vd_perm hp9 hD)).1) rfl rfl hl.1 rfl (lv_room (Nat.le_of_ble_eq_true rfl)) dX4_sendOn_88 ⟨Nat.le_of_ble_eq_true rfl, Nat.le_of_ble_eq_true rfl⟩) hP hD hS hA hp9 (fun h7 H locs hk7 hP hD hS => ?_)
  have hk7 : vq_ok e0 h7 L (sPk P ac so 4) := hk7
  have hp7 : (wJ (wJ (uVP vo sv hm nt nw np nc) (wJ (uSV cy sv sa) (wJ (Aw ac an 9 ap ab td) (wJ pl (fam4 (Sv cy sa g h7 κ ζ L (sPk P ac so 4) dl δ)))))) (wJ (uLO nt nm nd NL) (wJ (Ow no au kd na (nI t) we so) (wJ (uHM cy hm χ) (La cy nd nca NL)))) : va_W).Perm (wJ (uVP vo sv hm nt nw np nc) (wJ (uSV cy sv sa) (wJ (Aw ac an 9 ap ab td) (wJ (uLO nt nm nd NL) (wJ (Ow no au kd na (nI t) we so) (wJ (uHM cy hm χ) (wJ pl (wJ (fam4 (Sv cy sa g h7 κ ζ L (sPk P ac so 4) dl δ)) (La cy nd nca NL))))))))) := (vp_pc (fun n9 hn9 h90 => by simp only [wJ, hn9, h90, Nat.add_zero, Nat.zero_add] <;> ac_rfl))
  have hP : va_P D vwCl (wJ (uVP vo sv hm nt nw np nc) (wJ (uSV cy sv sa) (wJ (Aw ac an 9 ap ab td) (wJ (uLO nt nm nd NL) (wJ (Ow no au kd na (nI t) we so) (wJ (uHM cy hm χ) (wJ pl (wJ (fam4 (Sv cy sa g h7 κ ζ L (sPk P ac so 4) dl δ)) (La cy nd nca NL))))))))) H := vp_perm hP hp7
  have hD : va_D A0 (wJ (uVP vo sv hm nt nw np nc) (wJ (uSV cy sv sa) (wJ (Aw ac an 9 ap ab td) (wJ (uLO nt nm nd NL) (wJ (Ow no au kd na (nI t) we so) (wJ (uHM cy hm χ) (wJ pl (wJ (fam4 (Sv cy sa g h7 κ ζ L (sPk P ac so 4) dl δ)) (La cy nd nca NL))))))))) := vd_perm hp7 hD
  have hp8 : (wJ (uVP vo sv hm nt nw np nc) (wJ (uSV cy sv sa) (wJ (Aw ac an 9 ap ab td) (wJ (uLO nt nm nd NL) (wJ (Ow no au kd na (nI t) we so) (wJ (uHM cy hm χ) (wJ pl (wJ (fam4 (Sv cy sa g h7 κ ζ L (sPk P ac so 4) dl δ)) (La cy nd nca NL)))))))) : va_W).Perm (wJ (uVP vo sv hm nt nw np nc) (wJ (uHM cy hm χ) (wJ (uSV cy sv sa) (wJ (Aw ac an 9 ap ab td) (wJ (wJ (uLO nt nm nd NL) (wJ (Ow no au kd na (nI t) we so) (La cy nd nca NL))) (wJ pl (fam4 (Sv cy sa g h7 κ ζ L (sPk P ac so 4) dl δ)))))))) := (vp_pc (fun n9 hn9 h90 => by simp only [wJ, hn9, h90, Nat.add_zero, Nat.zero_add] <;> ac_rfl))
  have hP : va_P D vwCl (wJ (uVP vo sv hm nt nw np nc) (wJ (uHM cy hm χ) (wJ (uSV cy sv sa) (wJ (Aw ac an 9 ap ab td) (wJ (wJ (uLO nt nm nd NL) (wJ (Ow no au kd na (nI t) we so) (La cy nd nca NL))) (wJ pl (fam4 (Sv cy sa g h7 κ ζ L (sPk P ac so 4) dl δ)))))))) H := vp_perm hP hp8
  have hD : va_D A0 (wJ (uVP vo sv hm nt nw np nc) (wJ (uHM cy hm χ) (wJ (uSV cy sv sa) (wJ (Aw ac an 9 ap ab td) (wJ (wJ (uLO nt nm nd NL) (wJ (Ow no au kd na (nI t) we so) (La cy nd nca NL))) (wJ pl (fam4 (Sv cy sa g h7 κ ζ L (sPk P ac so 4) dl δ)))))))) := vd_perm hp8 hD
  subst hA0
  refine W.widen (k := 4) (n := 4936) (by omega) (by omega) ?_
  exact W.vret hx hb hr (fun t ht hW => ⟨⟨h7, rfl, hk7, (by rw [ht]; exact hP), hD⟩, hS.F ht⟩) hS.2.2 dX4_sendOn_91

/-- sendOn at si: it leaves the packets P' and the notes' cells X' -/
def vSO (l : Launch) (D : va_G) (cy : Nat → ClassId) (e0 mi : Nat) (vo : Nat) (sv : Nat) (hm : Nat) (nt : Nat) (nw : Nat) (np : Nat) (nc : Nat) (χ : Nat → Nat) (sa : Nat → Nat) (ac : Nat) (an : Nat) (ak : Nat) (ap : Nat) (ab : Nat) (td : Int32) (pl : va_W) (g : Nat → Nat → Nat) (κ : Nat → Nat → Nat → Int32) (ζ : Nat → Nat → Nat → Int64) (L : Nat → List Nat) (P : Nat → List Nat) (P' : Nat → List Nat) (dl : Nat → Nat) (δ : Nat → Nat → Int32) (si : Nat) (X X' : va_W) : Prop := ∀ (sz : Nat) (h : Nat → Nat → Nat), vq_ok e0 h L P → Met l yX4_sendOn wsX4_sendOn ({ frames := 9, cells := 4, slots := 4936, locals := 246 }) (vh_P D cy e0 mi [.ref vo, .int (nI si), .ref ac] sz (wJ (uVP vo sv hm nt nw np nc) (wJ (uHM cy hm χ) (wJ (uSV cy sv sa) (wJ (Aw ac an ak ap ab td) (wJ X (wJ pl (fam4 (Sv cy sa g h κ ζ L P dl δ))))))))) (vg_Qv (S := Nat → Nat → Nat) D sz (wJ (uVP vo sv hm nt nw np nc) (wJ (uHM cy hm χ) (wJ (uSV cy sv sa) (wJ (Aw ac an ak ap ab td) (wJ X (wJ pl (fam4 (Sv cy sa g h κ ζ L P dl δ)))))))) (fun u => vq_ok e0 u L P') (fun u => wJ (uVP vo sv hm nt nw np nc) (wJ (uHM cy hm χ) (wJ (uSV cy sv sa) (wJ (Aw ac an ak ap ab td) (wJ X' (wJ pl (fam4 (Sv cy sa g u κ ζ L P' dl δ))))))))) 4 4936 (va_A (wJ (uVP vo sv hm nt nw np nc) (wJ (uHM cy hm χ) (wJ (uSV cy sv sa) (wJ (Aw ac an ak ap ab td) (wJ X (wJ pl (fam4 (Sv cy sa g h κ ζ L P dl δ)))))))) sz)
