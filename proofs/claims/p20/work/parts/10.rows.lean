/-! my own rows: one environment, contracts over a whole unit of cells, calls in one row -/
/-- the array classes: int, long, boolean, Server, Object -/
abbrev vg_tys (cy : Nat → ClassId) : List (ClassId × FieldType) := [(cy 0, .int), (cy 1, .long), (cy 2, .boolean), (cy 3, .object "Villagepost$Server"), (cy 4, .object "java/lang/Object")]
def vg_nwl : List Cond := [.methodLinkNest "Villagepost" 9 ⟨"Villagepost$Server", "<init>", "()V"⟩ "Villagepost", .methodLinkNest "Villagepost$Server" 11 ⟨"Villagepost$Knowledge", "<init>", "()V"⟩ "Villagepost", .methodLinkNest "Villagepost" 29 ⟨"Villagepost$Knowledge", "<init>", "()V"⟩ "Villagepost", .methodLinkNest "Villagepost$Knowledge" 81 ⟨"Villagepost", "has", "(II)Z"⟩ "Villagepost", .methodLinkNest "Villagepost$Knowledge" 54 ⟨"Villagepost", "bit", "(I)I"⟩ "Villagepost", .methodLinkNest "Villagepost$Knowledge" 84 ⟨"Villagepost", "hasPost", "(JI)Z"⟩ "Villagepost", .castable "Villagepost$Act" "java/lang/Object", .castable "Villagepost$Note" "java/lang/Object", .castable "Villagepost$Server" "Villagepost$Server"]
def vg_E (D : va_G) (cy : Nat → ClassId) (U : State) : Prop := va_K D vwCl (vg_tys cy) U ∧ ∀ w ∈ vg_nwl, va_Nw w U
theorem vg_E.same {D : va_G} {cy : Nat → ClassId} {u U : State} (h : vg_E D cy u) (hv : u.vm = U.vm) : vg_E D cy U := by
  refine ⟨va_K.moved (by rw [hv]; exact Vm.Alike.refl _) h.1, fun w hw => ?_⟩
  have h1 := h.2 w hw
  refine va_Nw.same ?_ hv h1
  simp only [vg_nwl, List.mem_cons, List.not_mem_nil, or_false] at hw
  rcases hw with rfl | rfl | rfl | rfl | rfl | rfl | rfl | rfl | rfl <;> rfl
theorem vg_E.warm {D : va_G} {cy : Nat → ClassId} {s U : State} (h : vg_E D cy s) (hW : s.WarmedH U.vm) : vg_E D cy U := by
  refine ⟨va_K.moved hW.alike h.1, fun w hw => ?_⟩
  have h1 := h.2 w hw
  simp only [vg_nwl, List.mem_cons, List.not_mem_nil, or_false] at hw
  rcases hw with rfl | rfl | rfl | rfl | rfl | rfl | rfl | rfl | rfl
  · exact va_Nw.warmM hW h1
  · exact va_Nw.warmM hW h1
  · exact va_Nw.warmM hW h1
  · exact va_Nw.warmM hW h1
  · exact va_Nw.warmM hW h1
  · exact va_Nw.warmM hW h1
  · exact va_Nw.warmC hW h1
  · exact va_Nw.warmC hW h1
  · exact va_Nw.warmC hW h1
/-- a contract's start over the cells W -/
def vg_P (D : va_G) (cy : Nat → ClassId) (av : List Value) (sz : Nat) (W : va_W) : Array Value → State → Prop := va_Pc av (fun U => U.heap.size = sz ∧ va_P D vwCl W U.heap ∧ vg_E D cy U ∧ va_D (fun _ => True) W)
theorem vg_P.blind {D : va_G} {cy : Nat → ClassId} {av : List Value} {sz : Nat} {W : va_W} : FrameBlind (vg_P D cy av sz W) := fun a U g mk q => by
  obtain ⟨q0, q1, q2, q3, q4⟩ := q
  exact ⟨q0, q1, q2, q3.same (U := U.calling g mk a) rfl, q4⟩
theorem vg_P.of {D : va_G} {cy : Nat → ClassId} {av : List Value} {W : va_W} {A : Nat → Prop} {s : State} {H : Heap} (hE : vg_E D cy s) (hP : va_P D vwCl W H) (hD : va_D A W) : ∀ U : State, U.heap = H → s.WarmedH U.vm → vg_P D cy av H.size W av.toArray U := fun U hU hW => ⟨rfl, by rw [hU], by rw [hU]; exact hP, hE.warm hW, hD.weaken (fun _ _ _ _ => trivial)⟩
theorem vg_P.preS {D : va_G} {cy : Nat → ClassId} {av : List Value} {W : va_W} {A : Nat → Prop} {s : State} {H : Heap} (hE : vg_E D cy s) (hP : va_P D vwCl W H) (hD : va_D A W) : PreS s H (vg_P D cy av H.size W) av := ⟨vg_P.blind, vg_P.of hE hP hD⟩
/-- the receiver is a cell of the caller's world ws, W the callee's part -/
theorem vg_P.preV {D : va_G} {cy : Nat → ClassId} {b : Nat} {As : List Value} {ws W : va_W} {A : Nat → Prop} {s : State} {H : Heap} {ci : Nat} {q : vw_C} {fs : List Value} (hE : vg_E D cy s) (hPs : va_P D vwCl ws H) (q0 : Nat) (he : ws[q0]? = some (b, .inr (ci, fs))) (hc : vwCl[ci]? = some q) (hP : va_P D vwCl W H) (hD : va_D A W) : PreV s H q.1 b (vg_P D cy (.ref b :: As) H.size W) As := ⟨vg_P.blind, va_recv hE.1 hPs hc he, vg_P.of hE hP hD⟩
/-- the end of a contract -/
def vg_B {S : Type} (D : va_G) (sz : Nat) (W : va_W) (W' : S → va_W) : S → State → Prop := fun u t => va_P D vwCl (W' u) t.heap ∧ va_D (va_A W sz) (W' u)
def vg_Qi {S : Type} (D : va_G) (sz : Nat) (W : va_W) (post : Int32 → S → Prop) (W' : S → va_W) : Array Value → State → Outcome → State → Prop := va_Qi post (vg_B D sz W W') (va_A W sz)
def vg_Ql {S : Type} (D : va_G) (sz : Nat) (W : va_W) (post : Int64 → S → Prop) (W' : S → va_W) : Array Value → State → Outcome → State → Prop := va_Ql post (vg_B D sz W W') (va_A W sz)
def vg_Qv {S : Type} (D : va_G) (sz : Nat) (W : va_W) (post : S → Prop) (W' : S → va_W) : Array Value → State → Outcome → State → Prop := va_Qv post (vg_B D sz W W') (va_A W sz)
def vg_Qq {S : Type} (D : va_G) (sz : Nat) (W : va_W) (post : Option Nat → S → Prop) (W' : S → va_W) : Array Value → State → Outcome → State → Prop := va_Qq post (vg_B D sz W W') (va_A W sz)
def bI (b : Bool) : Int32 := if b then 1 else 0
theorem bI_t : bI true = 1 := rfl
theorem bI_f : bI false = 0 := rfl
theorem bI_0 {b : Bool} : bI b = 0 ↔ b = false := by cases b <;> simp [bI]
theorem bI_n0 {b : Bool} : ¬ bI b = 0 ↔ b = true := by cases b <;> simp [bI]
theorem bI_1 {b : Bool} : bI b = 1 ↔ b = true := by cases b <;> simp [bI]
theorem bI_inj {a b : Bool} : bI a = bI b ↔ a = b := by cases a <;> cases b <;> simp [bI]
theorem bI_nar (b : Bool) : vp_nar .boolean (bI b) = bI b := by cases b <;> rfl
theorem bI_and (b : Bool) : narrow .boolean (.int (bI b)) = .int (bI b) := by cases b <;> rfl
section VG
variable {p : Program} {l : Launch} {e : Env} {R : Room} {s : State} {m : MethodId} {args : Array Value} {below : List Frame} {meth : Method} {c : Code} {H : Heap} {locs : List Loc} {cells slots : Nat} {Q : State → Prop}
variable {cc : ByteArray} {pc : Nat} {ls : Array Slot} {rest st0 : List Value} {D : va_G} {cl : List vw_C} {A A0 : Nat → Prop} {a : Nat} {tys : List (ClassId × FieldType)} {ws wc wr : va_W} {H0 : Heap} {ar : Array Value} {mc ms : Nat} {free : Addr → Prop}
/-- the top of the stack by another name -/
theorem vg_tp {x : Int32} (y : Int32) (h : x = y) (k : W p l e R s m args below meth c H locs cells slots Q (F0 m pc ls (.int y :: rest))) : W p l e R s m args below meth c H locs cells slots Q (F0 m pc ls (.int x :: rest)) := h ▸ k
theorem vg_tpl {x : Int64} (y : Int64) (h : x = y) (k : W p l e R s m args below meth c H locs cells slots Q (F0 m pc ls (.long y :: rest))) : W p l e R s m args below meth c H locs cells slots Q (F0 m pc ls (.long x :: rest)) := h ▸ k
theorem vg_tpv {x : Value} (y : Value) (h : x = y) (k : W p l e R s m args below meth c H locs cells slots Q (F0 m pc ls (y :: rest))) : W p l e R s m args below meth c H locs cells slots Q (F0 m pc ls (x :: rest)) := h ▸ k
theorem vg_iald (hexec : p.tables.exec = Jvm.exec) (hb : c.code = cc) (hK : va_K D cl tys s) (hP : va_P D cl ws H) (q0 t0 : Nat) {cA : ClassId} {n : Nat} {f : Nat → Int32} (ha : ws[q0]? = some (a, .inl (cA, n, .inl f))) (ht : tys[t0]? = some (cA, .int)) {j : Nat} (hj : j < n) (hn : n < 2 ^ 31) (hdg : decode cc pc = .ok (.iaload, 1))
    (kk : W p l e R s m args below meth c H locs cells slots Q (F0 m (pc + 1) ls (.int (f j) :: rest))) : W p l e R s m args below meth c H locs cells slots Q (F0 m pc ls (.int (nI j) :: .ref a :: rest)) := by
  refine va_iald hexec hb hK hP q0 t0 ha ht (vp_in_nI hj hn) hdg ?_
  rw [nI_clamp (Nat.lt_trans hj hn)]
  exact kk
theorem vg_zald (hexec : p.tables.exec = Jvm.exec) (hb : c.code = cc) (hK : va_K D cl tys s) (hP : va_P D cl ws H) (q0 t0 : Nat) {cA : ClassId} {n : Nat} {f : Nat → Int32} (ha : ws[q0]? = some (a, .inl (cA, n, .inl f))) (ht : tys[t0]? = some (cA, .boolean)) {j : Nat} (hj : j < n) (hn : n < 2 ^ 31) (hdg : decode cc pc = .ok (.baload, 1))
    (kk : W p l e R s m args below meth c H locs cells slots Q (F0 m (pc + 1) ls (.int (f j) :: rest))) : W p l e R s m args below meth c H locs cells slots Q (F0 m pc ls (.int (nI j) :: .ref a :: rest)) := by
  refine va_zald hexec hb hK hP q0 t0 ha ht (vp_in_nI hj hn) hdg ?_
  rw [nI_clamp (Nat.lt_trans hj hn)]
  exact kk
theorem vg_lald (hexec : p.tables.exec = Jvm.exec) (hb : c.code = cc) (hK : va_K D cl tys s) (hP : va_P D cl ws H) (q0 t0 : Nat) {cA : ClassId} {n : Nat} {f : Nat → Int64} (ha : ws[q0]? = some (a, .inl (cA, n, .inr (.inl f)))) (ht : tys[t0]? = some (cA, .long)) {j : Nat} (hj : j < n) (hn : n < 2 ^ 31) (hdg : decode cc pc = .ok (.laload, 1))
    (kk : W p l e R s m args below meth c H locs cells slots Q (F0 m (pc + 1) ls (.long (f j) :: rest))) : W p l e R s m args below meth c H locs cells slots Q (F0 m pc ls (.int (nI j) :: .ref a :: rest)) := by
  refine va_lald hexec hb hK hP q0 t0 ha ht (vp_in_nI hj hn) hdg ?_
  rw [nI_clamp (Nat.lt_trans hj hn)]
  exact kk
theorem vg_aldq (hexec : p.tables.exec = Jvm.exec) (hb : c.code = cc) (hK : va_K D cl tys s) (hP : va_P D cl ws H) (q0 t0 : Nat) {cA : ClassId} {C : String} {n : Nat} {f : Nat → Option Nat} (ha : ws[q0]? = some (a, .inl (cA, n, .inr (.inr (.inr (.inr f)))))) (ht : tys[t0]? = some (cA, .object C)) {j : Nat} (hj : j < n) (hn : n < 2 ^ 31) {v : Nat} (hv : f j = some v) (hdg : decode cc pc = .ok (.aaload, 1))
    (kk : W p l e R s m args below meth c H locs cells slots Q (F0 m (pc + 1) ls (.ref v :: rest))) : W p l e R s m args below meth c H locs cells slots Q (F0 m pc ls (.int (nI j) :: .ref a :: rest)) := by
  refine va_aldq hexec hb hK hP q0 t0 ha ht (vp_in_nI hj hn) hdg ?_
  rw [nI_clamp (Nat.lt_trans hj hn), hv]
  exact kk
theorem vg_iast (hexec : p.tables.exec = Jvm.exec) (hb : c.code = cc) (hK : va_K D cl tys s) (hP : va_P D cl ws H) (hD : va_D A ws) (hS : va_S A H0 H locs) (q0 t0 : Nat) {cA : ClassId} {n : Nat} {f : Nat → Int32} (ha : ws[q0]? = some (a, .inl (cA, n, .inl f))) (ht : tys[t0]? = some (cA, .int)) {j : Nat} {x : Int32} (hj : j < n) (hn : n < 2 ^ 31) (hdg : decode cc pc = .ok (.iastore, 1))
    (kk : ∀ (H1 : Heap) (locs1 : List Loc), va_P D cl (ws.set q0 (a, .inl (cA, n, .inl (upd f j x)))) H1 → va_D A (ws.set q0 (a, .inl (cA, n, .inl (upd f j x)))) → va_S A H0 H1 locs1 → W p l e R s m args below meth c H1 locs1 cells slots Q (F0 m (pc + 1) ls rest)) : W p l e R s m args below meth c H locs cells slots Q (F0 m pc ls (.int x :: .int (nI j) :: .ref a :: rest)) := by
  refine va_iast hexec hb hK hP hD hS q0 t0 ha ht (vp_in_nI hj hn) hdg ?_
  rw [nI_clamp (Nat.lt_trans hj hn)]
  exact kk
theorem vg_zast (hexec : p.tables.exec = Jvm.exec) (hb : c.code = cc) (hK : va_K D cl tys s) (hP : va_P D cl ws H) (hD : va_D A ws) (hS : va_S A H0 H locs) (q0 t0 : Nat) {cA : ClassId} {n : Nat} {f : Nat → Int32} (ha : ws[q0]? = some (a, .inl (cA, n, .inl f))) (ht : tys[t0]? = some (cA, .boolean)) {j : Nat} {x : Int32} (hj : j < n) (hn : n < 2 ^ 31) (hx : vp_nar .boolean x = x) (hdg : decode cc pc = .ok (.bastore, 1))
    (kk : ∀ (H1 : Heap) (locs1 : List Loc), va_P D cl (ws.set q0 (a, .inl (cA, n, .inl (upd f j x)))) H1 → va_D A (ws.set q0 (a, .inl (cA, n, .inl (upd f j x)))) → va_S A H0 H1 locs1 → W p l e R s m args below meth c H1 locs1 cells slots Q (F0 m (pc + 1) ls rest)) : W p l e R s m args below meth c H locs cells slots Q (F0 m pc ls (.int x :: .int (nI j) :: .ref a :: rest)) := by
  refine va_zast hexec hb hK hP hD hS q0 t0 ha ht (vp_in_nI hj hn) hdg ?_
  rw [nI_clamp (Nat.lt_trans hj hn), hx]
  exact kk
theorem vg_last (hexec : p.tables.exec = Jvm.exec) (hb : c.code = cc) (hK : va_K D cl tys s) (hP : va_P D cl ws H) (hD : va_D A ws) (hS : va_S A H0 H locs) (q0 t0 : Nat) {cA : ClassId} {n : Nat} {f : Nat → Int64} (ha : ws[q0]? = some (a, .inl (cA, n, .inr (.inl f)))) (ht : tys[t0]? = some (cA, .long)) {j : Nat} {x : Int64} (hj : j < n) (hn : n < 2 ^ 31) (hdg : decode cc pc = .ok (.lastore, 1))
    (kk : ∀ (H1 : Heap) (locs1 : List Loc), va_P D cl (ws.set q0 (a, .inl (cA, n, .inr (.inl (vp_updL f j x))))) H1 → va_D A (ws.set q0 (a, .inl (cA, n, .inr (.inl (vp_updL f j x))))) → va_S A H0 H1 locs1 → W p l e R s m args below meth c H1 locs1 cells slots Q (F0 m (pc + 1) ls rest)) : W p l e R s m args below meth c H locs cells slots Q (F0 m pc ls (.long x :: .int (nI j) :: .ref a :: rest)) := by
  refine va_last hexec hb hK hP hD hS q0 t0 ha ht (vp_in_nI hj hn) hdg ?_
  rw [nI_clamp (Nat.lt_trans hj hn)]
  exact kk
/-- behind a call over a part wc of the caller's cells: by places in the written part of the world, R its rest -/
theorem vg_join {A0 : Nat → Prop} {D : va_G} {pre R wc wr w1 : va_W} {H H1 : Heap} (hP : va_P D vwCl (pre ++ R) H) (hD : va_D A0 (pre ++ R)) (isC isR : List Nat) (hC : isC.map (fun i => pre[i]?) = wc.map some) (hR : isR.map (fun i => pre[i]?) = wr.map some) (hn : va_nd isR = true) (hdis : ∀ i ∈ isR, i ∉ isC)
    (hk : ∀ q : Nat, q < H.size → ¬ va_A wc H.size q → H1[q]? = H[q]?) (hF : ∀ q, va_A wc H.size q → A0 q) (hP1 : va_P D vwCl w1 H1) (hD1 : va_D (va_A wc H.size) w1) : va_P D vwCl ((w1 ++ wr) ++ R) H1 ∧ va_D A0 ((w1 ++ wr) ++ R) := by
  have at' : ∀ {is : List Nat} {w : va_W}, is.map (fun i => pre[i]?) = w.map some → ∀ (k : Nat) (q : Nat × va_E), w[k]? = some q → ∃ i, is[k]? = some i ∧ pre[i]? = some q := by
    intro is w hs k q hq
    have h1 : (is.map (fun i => pre[i]?))[k]? = some (some q) := by rw [hs, List.getElem?_map, hq]; rfl
    rw [List.getElem?_map] at h1
    cases hi : is[k]? with
    | none => rw [hi] at h1; cases h1
    | some i => rw [hi] at h1; exact ⟨i, rfl, Option.some.inj h1⟩
  have inpre : ∀ (i : Nat) (q : Nat × va_E), pre[i]? = some q → (pre ++ R)[i]? = some q := fun i q h => by
    rw [List.getElem?_append_left (List.getElem?_eq_some_iff.mp h).1]; exact h
  have inR : ∀ (i : Nat) (q : Nat × va_E), R[i]? = some q → (pre ++ R)[pre.length + i]? = some q := fun i q h => by
    rw [List.getElem?_append_right (by omega), Nat.add_sub_cancel_left]; exact h
  have notc : ∀ (i : Nat) (q : Nat × va_E), (pre ++ R)[i]? = some q → (∀ j, j ∈ isC → j = i → False) → ¬ va_A wc H.size q.1 := by
    intro i q h2 hne h
    have hl := (hP i q h2).lt
    rcases h with ⟨k2, e, h⟩ | h
    · obtain ⟨j, h3, h4⟩ := at' hC k2 (q.1, e) h
      have hij := hD.1 j i (q.1, e) q (inpre _ _ h4) h2 rfl
      exact hne j (List.mem_of_getElem? h3) hij
    · omega
  have hlen : ∀ j, j ∈ isC → j < pre.length := by
    intro j hj
    obtain ⟨k, hk2⟩ := List.getElem?_of_mem hj
    have h1 : (isC.map (fun i => pre[i]?))[k]? = some (pre[j]?) := by rw [List.getElem?_map, hk2]; rfl
    rw [hC, List.getElem?_map] at h1
    cases hw : wc[k]? with
    | none => rw [hw] at h1; cases h1
    | some z => rw [hw] at h1; exact (List.getElem?_eq_some_iff.mp (Option.some.inj h1).symm).1
  have kr : ∀ (k : Nat) (q : Nat × va_E), wr[k]? = some q → va_at D vwCl q H1 ∧ ¬ va_A wc H.size q.1 ∧ A0 q.1 := by
    intro k q hq
    obtain ⟨i, h1, h2⟩ := at' hR k q hq
    have hn2 := notc i q (inpre _ _ h2) (fun j hj e => hdis i (List.mem_of_getElem? h1) (e ▸ hj))
    have hat := hP i q (inpre _ _ h2)
    exact ⟨hat.kept (hk q.1 hat.lt hn2), hn2, hD.2 i q (inpre _ _ h2)⟩
  have kR : ∀ (k : Nat) (q : Nat × va_E), R[k]? = some q → va_at D vwCl q H1 ∧ ¬ va_A wc H.size q.1 ∧ A0 q.1 := by
    intro k q hq
    have hn2 := notc _ q (inR _ _ hq) (fun j hj e => by have := hlen j hj; omega)
    have hat := hP _ q (inR _ _ hq)
    exact ⟨hat.kept (hk q.1 hat.lt hn2), hn2, hD.2 _ q (inR _ _ hq)⟩
  have hDr : va_D A0 wr := by
    refine ⟨fun i j x y hx hy hxy => ?_, fun k q hq => (kr k q hq).2.2⟩
    obtain ⟨i1, h1, h2⟩ := at' hR i x hx
    obtain ⟨j1, h3, h4⟩ := at' hR j y hy
    have := hD.1 i1 j1 x y (inpre _ _ h2) (inpre _ _ h4) hxy
    subst this
    exact va_nd_inj isR hn i j i1 h1 h3
  have hDR : va_D A0 R := ⟨fun i j x y hx hy hxy => by have := hD.1 _ _ x y (inR _ _ hx) (inR _ _ hy) hxy; omega, fun k q hq => (kR k q hq).2.2⟩
  refine ⟨va_P.app (va_P.app hP1 (fun k q hq => (kr k q hq).1)) (fun k q hq => (kR k q hq).1), va_D.app (va_D.app (hD1.weaken (fun k q _ h => hF q.1 h)) hDr (fun i j x y hx hy hxy => ?_)) hDR (fun i j x y hx hy hxy => ?_)⟩
  · exact (kr j y hy).2.1 (by rw [← hxy]; exact hD1.2 i x hx)
  · rcases List.mem_append.mp (List.mem_of_getElem? hx) with h | h
    · obtain ⟨k, hk3⟩ := List.getElem?_of_mem h
      exact (kR j y hy).2.1 (by rw [← hxy]; exact hD1.2 k x hk3)
    · obtain ⟨k, hk3⟩ := List.getElem?_of_mem h
      obtain ⟨i1, h1, h2⟩ := at' hR k x hk3
      have h5 := hD.1 _ _ x y (inpre _ _ h2) (inR _ _ hy) hxy
      have h6 := (List.getElem?_eq_some_iff.mp h2).1
      omega
theorem vg_freeP {A0 : Nat → Prop} {pre R wc : va_W} {H0 H : Heap} {locs : List Loc} (hD : va_D A0 (pre ++ R)) (hS : va_S A0 H0 H locs) (hA : ∀ q, H0.size ≤ q → A0 q) (isC : List Nat) (hC : isC.map (fun i => pre[i]?) = wc.map some) : ∀ q, va_A wc H.size q → A0 q := by
  intro q h
  rcases h with ⟨k, e, h⟩ | h
  · have h1 : (isC.map (fun i => pre[i]?))[k]? = some (some (q, e)) := by rw [hC, List.getElem?_map, h]; rfl
    rw [List.getElem?_map] at h1
    cases hi : isC[k]? with
    | none => rw [hi] at h1; cases h1
    | some i =>
      rw [hi] at h1
      have h2 : pre[i]? = some (q, e) := Option.some.inj h1
      exact hD.2 i (q, e) (by rw [List.getElem?_append_left (List.getElem?_eq_some_iff.mp h2).1]; exact h2)
  · exact hA q (Nat.le_trans hS.1 h)
theorem vg_calli {S : Type} {post : Int32 → S → Prop} {W' : S → va_W} {pre RR wc wr : va_W} (hr : va_Run p l e R s m args below meth c H locs cells slots mc ms (F0 m pc ls st0) rest (vg_Qi D H.size wc post W' ar) (va_A wc H.size)) (hP : va_P D vwCl (pre ++ RR) H) (hD : va_D A0 (pre ++ RR)) (hS : va_S A0 H0 H locs) (hA : ∀ q, H0.size ≤ q → A0 q) (isC isR : List Nat) (hC : isC.map (fun i => pre[i]?) = wc.map some) (hR : isR.map (fun i => pre[i]?) = wr.map some) (hn : va_nd isR = true) (hdis : ∀ i ∈ isR, i ∉ isC)
    (kk : ∀ (r : Int32) (u : S) (H1 : Heap) (locs1 : List Loc), post r u → va_P D vwCl ((W' u ++ wr) ++ RR) H1 → va_D A0 ((W' u ++ wr) ++ RR) → va_S A0 H0 H1 locs1 → W p l e R s m args below meth c H1 locs1 (cells + mc) (slots + ms) Q (F0 m (pc + 3) ls (.int r :: rest))) : W p l e R s m args below meth c H locs cells slots Q (F0 m pc ls st0) := by
  have hF := vg_freeP hD hS hA isC hC
  refine va_calli hr hS (fun q _ h => hF q h) hF (fun r u t H1 locs1 ht hvm hw hB hz hk hS1 => ?_)
  obtain ⟨hP1, hD1⟩ := hB
  rw [ht] at hP1
  obtain ⟨a1, a2⟩ := vg_join hP hD isC isR hC hR hn hdis hk hF hP1 hD1
  exact kk r u H1 locs1 hw a1 a2 hS1
theorem vg_calliW {S : Type} {post : Int32 → S → Prop} {W' : S → va_W} {wc : va_W} (hr : va_Run p l e R s m args below meth c H locs cells slots mc ms (F0 m pc ls st0) rest (vg_Qi D H.size wc post W' ar) (va_A wc H.size)) (hP : va_P D vwCl wc H) (hD : va_D A0 wc) (hS : va_S A0 H0 H locs) (hA : ∀ q, H0.size ≤ q → A0 q) 
    (kk : ∀ (r : Int32) (u : S) (H1 : Heap) (locs1 : List Loc), post r u → va_P D vwCl (W' u) H1 → va_D A0 (W' u) → va_S A0 H0 H1 locs1 → W p l e R s m args below meth c H1 locs1 (cells + mc) (slots + ms) Q (F0 m (pc + 3) ls (.int r :: rest))) : W p l e R s m args below meth c H locs cells slots Q (F0 m pc ls st0) := by
  have hF : ∀ q, va_A wc H.size q → A0 q := fun q h => by
    rcases h with ⟨k, e, h⟩ | h
    · exact hD.2 k (q, e) h
    · exact hA q (Nat.le_trans hS.1 h)
  refine va_calli hr hS (fun q _ h => hF q h) hF (fun r u t H1 locs1 ht hvm hw hB hz hk hS1 => ?_)
  obtain ⟨hP1, hD1⟩ := hB
  rw [ht] at hP1
  exact kk r u H1 locs1 hw hP1 (hD1.weaken (fun k q _ h => hF q.1 h)) hS1
theorem vg_calll {S : Type} {post : Int64 → S → Prop} {W' : S → va_W} {pre RR wc wr : va_W} (hr : va_Run p l e R s m args below meth c H locs cells slots mc ms (F0 m pc ls st0) rest (vg_Ql D H.size wc post W' ar) (va_A wc H.size)) (hP : va_P D vwCl (pre ++ RR) H) (hD : va_D A0 (pre ++ RR)) (hS : va_S A0 H0 H locs) (hA : ∀ q, H0.size ≤ q → A0 q) (isC isR : List Nat) (hC : isC.map (fun i => pre[i]?) = wc.map some) (hR : isR.map (fun i => pre[i]?) = wr.map some) (hn : va_nd isR = true) (hdis : ∀ i ∈ isR, i ∉ isC)
    (kk : ∀ (r : Int64) (u : S) (H1 : Heap) (locs1 : List Loc), post r u → va_P D vwCl ((W' u ++ wr) ++ RR) H1 → va_D A0 ((W' u ++ wr) ++ RR) → va_S A0 H0 H1 locs1 → W p l e R s m args below meth c H1 locs1 (cells + mc) (slots + ms) Q (F0 m (pc + 3) ls (.long r :: rest))) : W p l e R s m args below meth c H locs cells slots Q (F0 m pc ls st0) := by
  have hF := vg_freeP hD hS hA isC hC
  refine va_calll hr hS (fun q _ h => hF q h) hF (fun r u t H1 locs1 ht hvm hw hB hz hk hS1 => ?_)
  obtain ⟨hP1, hD1⟩ := hB
  rw [ht] at hP1
  obtain ⟨a1, a2⟩ := vg_join hP hD isC isR hC hR hn hdis hk hF hP1 hD1
  exact kk r u H1 locs1 hw a1 a2 hS1
theorem vg_calllW {S : Type} {post : Int64 → S → Prop} {W' : S → va_W} {wc : va_W} (hr : va_Run p l e R s m args below meth c H locs cells slots mc ms (F0 m pc ls st0) rest (vg_Ql D H.size wc post W' ar) (va_A wc H.size)) (hP : va_P D vwCl wc H) (hD : va_D A0 wc) (hS : va_S A0 H0 H locs) (hA : ∀ q, H0.size ≤ q → A0 q) 
    (kk : ∀ (r : Int64) (u : S) (H1 : Heap) (locs1 : List Loc), post r u → va_P D vwCl (W' u) H1 → va_D A0 (W' u) → va_S A0 H0 H1 locs1 → W p l e R s m args below meth c H1 locs1 (cells + mc) (slots + ms) Q (F0 m (pc + 3) ls (.long r :: rest))) : W p l e R s m args below meth c H locs cells slots Q (F0 m pc ls st0) := by
  have hF : ∀ q, va_A wc H.size q → A0 q := fun q h => by
    rcases h with ⟨k, e, h⟩ | h
    · exact hD.2 k (q, e) h
    · exact hA q (Nat.le_trans hS.1 h)
  refine va_calll hr hS (fun q _ h => hF q h) hF (fun r u t H1 locs1 ht hvm hw hB hz hk hS1 => ?_)
  obtain ⟨hP1, hD1⟩ := hB
  rw [ht] at hP1
  exact kk r u H1 locs1 hw hP1 (hD1.weaken (fun k q _ h => hF q.1 h)) hS1
theorem vg_callv {S : Type} {post : S → Prop} {W' : S → va_W} {pre RR wc wr : va_W} (hr : va_Run p l e R s m args below meth c H locs cells slots mc ms (F0 m pc ls st0) rest (vg_Qv D H.size wc post W' ar) (va_A wc H.size)) (hP : va_P D vwCl (pre ++ RR) H) (hD : va_D A0 (pre ++ RR)) (hS : va_S A0 H0 H locs) (hA : ∀ q, H0.size ≤ q → A0 q) (isC isR : List Nat) (hC : isC.map (fun i => pre[i]?) = wc.map some) (hR : isR.map (fun i => pre[i]?) = wr.map some) (hn : va_nd isR = true) (hdis : ∀ i ∈ isR, i ∉ isC)
    (kk : ∀ (u : S) (H1 : Heap) (locs1 : List Loc), post u → va_P D vwCl ((W' u ++ wr) ++ RR) H1 → va_D A0 ((W' u ++ wr) ++ RR) → va_S A0 H0 H1 locs1 → W p l e R s m args below meth c H1 locs1 (cells + mc) (slots + ms) Q (F0 m (pc + 3) ls (rest))) : W p l e R s m args below meth c H locs cells slots Q (F0 m pc ls st0) := by
  have hF := vg_freeP hD hS hA isC hC
  refine va_callv hr hS (fun q _ h => hF q h) hF (fun u t H1 locs1 ht hvm hw hB hz hk hS1 => ?_)
  obtain ⟨hP1, hD1⟩ := hB
  rw [ht] at hP1
  obtain ⟨a1, a2⟩ := vg_join hP hD isC isR hC hR hn hdis hk hF hP1 hD1
  exact kk u H1 locs1 hw a1 a2 hS1
theorem vg_callvW {S : Type} {post : S → Prop} {W' : S → va_W} {wc : va_W} (hr : va_Run p l e R s m args below meth c H locs cells slots mc ms (F0 m pc ls st0) rest (vg_Qv D H.size wc post W' ar) (va_A wc H.size)) (hP : va_P D vwCl wc H) (hD : va_D A0 wc) (hS : va_S A0 H0 H locs) (hA : ∀ q, H0.size ≤ q → A0 q) 
    (kk : ∀ (u : S) (H1 : Heap) (locs1 : List Loc), post u → va_P D vwCl (W' u) H1 → va_D A0 (W' u) → va_S A0 H0 H1 locs1 → W p l e R s m args below meth c H1 locs1 (cells + mc) (slots + ms) Q (F0 m (pc + 3) ls (rest))) : W p l e R s m args below meth c H locs cells slots Q (F0 m pc ls st0) := by
  have hF : ∀ q, va_A wc H.size q → A0 q := fun q h => by
    rcases h with ⟨k, e, h⟩ | h
    · exact hD.2 k (q, e) h
    · exact hA q (Nat.le_trans hS.1 h)
  refine va_callv hr hS (fun q _ h => hF q h) hF (fun u t H1 locs1 ht hvm hw hB hz hk hS1 => ?_)
  obtain ⟨hP1, hD1⟩ := hB
  rw [ht] at hP1
  exact kk u H1 locs1 hw hP1 (hD1.weaken (fun k q _ h => hF q.1 h)) hS1
theorem vg_callq {S : Type} {post : Option Nat → S → Prop} {W' : S → va_W} {pre RR wc wr : va_W} (hr : va_Run p l e R s m args below meth c H locs cells slots mc ms (F0 m pc ls st0) rest (vg_Qq D H.size wc post W' ar) (va_A wc H.size)) (hP : va_P D vwCl (pre ++ RR) H) (hD : va_D A0 (pre ++ RR)) (hS : va_S A0 H0 H locs) (hA : ∀ q, H0.size ≤ q → A0 q) (isC isR : List Nat) (hC : isC.map (fun i => pre[i]?) = wc.map some) (hR : isR.map (fun i => pre[i]?) = wr.map some) (hn : va_nd isR = true) (hdis : ∀ i ∈ isR, i ∉ isC)
    (kk : ∀ (r : Option Nat) (u : S) (H1 : Heap) (locs1 : List Loc), post r u → va_P D vwCl ((W' u ++ wr) ++ RR) H1 → va_D A0 ((W' u ++ wr) ++ RR) → va_S A0 H0 H1 locs1 → W p l e R s m args below meth c H1 locs1 (cells + mc) (slots + ms) Q (F0 m (pc + 3) ls (va_rf r :: rest))) : W p l e R s m args below meth c H locs cells slots Q (F0 m pc ls st0) := by
  have hF := vg_freeP hD hS hA isC hC
  refine va_callq hr hS (fun q _ h => hF q h) hF (fun r u t H1 locs1 ht hvm hw hB hz hk hS1 => ?_)
  obtain ⟨hP1, hD1⟩ := hB
  rw [ht] at hP1
  obtain ⟨a1, a2⟩ := vg_join hP hD isC isR hC hR hn hdis hk hF hP1 hD1
  exact kk r u H1 locs1 hw a1 a2 hS1
theorem vg_callqW {S : Type} {post : Option Nat → S → Prop} {W' : S → va_W} {wc : va_W} (hr : va_Run p l e R s m args below meth c H locs cells slots mc ms (F0 m pc ls st0) rest (vg_Qq D H.size wc post W' ar) (va_A wc H.size)) (hP : va_P D vwCl wc H) (hD : va_D A0 wc) (hS : va_S A0 H0 H locs) (hA : ∀ q, H0.size ≤ q → A0 q) 
    (kk : ∀ (r : Option Nat) (u : S) (H1 : Heap) (locs1 : List Loc), post r u → va_P D vwCl (W' u) H1 → va_D A0 (W' u) → va_S A0 H0 H1 locs1 → W p l e R s m args below meth c H1 locs1 (cells + mc) (slots + ms) Q (F0 m (pc + 3) ls (va_rf r :: rest))) : W p l e R s m args below meth c H locs cells slots Q (F0 m pc ls st0) := by
  have hF : ∀ q, va_A wc H.size q → A0 q := fun q h => by
    rcases h with ⟨k, e, h⟩ | h
    · exact hD.2 k (q, e) h
    · exact hA q (Nat.le_trans hS.1 h)
  refine va_callq hr hS (fun q _ h => hF q h) hF (fun r u t H1 locs1 ht hvm hw hB hz hk hS1 => ?_)
  obtain ⟨hP1, hD1⟩ := hB
  rw [ht] at hP1
  exact kk r u H1 locs1 hw hP1 (hD1.weaken (fun k q _ h => hF q.1 h)) hS1
theorem vg_P0 {D : va_G} {H : Heap} : va_P D vwCl ([] : va_W) H := fun k q h => by simp at h
theorem vg_D0 {A : Nat → Prop} : va_D A ([] : va_W) := ⟨fun i j p q h => by simp at h, fun k q h => by simp at h⟩
theorem vg_calliP {S : Type} {post : Int32 → S → Prop} {W' : S → va_W} (hr : va_Run p l e R s m args below meth c H locs cells slots mc ms (F0 m pc ls st0) rest (vg_Qi D H.size ([] : va_W) post W' ar) (va_A ([] : va_W) H.size)) (hP : va_P D vwCl ws H) (hD : va_D A0 ws) (hS : va_S A0 H0 H locs) (hA : ∀ q, H0.size ≤ q → A0 q)
    (kk : ∀ (r : Int32) (u : S) (H1 : Heap) (locs1 : List Loc), post r u → va_P D vwCl ws H1 → va_D A0 ws → va_S A0 H0 H1 locs1 → W p l e R s m args below meth c H1 locs1 (cells + mc) (slots + ms) Q (F0 m (pc + 3) ls (.int r :: rest))) : W p l e R s m args below meth c H locs cells slots Q (F0 m pc ls st0) := by
  have hn : ∀ q, va_A ([] : va_W) H.size q → H.size ≤ q := fun q h => by
    rcases h with ⟨k, e, h⟩ | h
    · simp at h
    · exact h
  have hF : ∀ q, va_A ([] : va_W) H.size q → A0 q := fun q h => hA q (Nat.le_trans hS.1 (hn q h))
  refine va_calli hr hS (fun q _ h => hF q h) hF (fun r u t H1 locs1 ht hvm hw hB hz hk hS1 => ?_)
  exact kk r u H1 locs1 hw (hP.kept (fun k q hq => hk q.1 (hP k q hq).lt (fun h => absurd (hn _ h) (Nat.not_le.mpr (hP k q hq).lt)))) hD hS1
end VG
