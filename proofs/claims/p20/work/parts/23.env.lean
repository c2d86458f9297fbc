/-! the environment of the methods that throw or keep lists -/
def vh_strs : List (Nat × String) := [(100, "the other one has no such alias"), (121, "no such kind, or no such person named"), (128, "there are 50 posts"), (140, "the post to reply to is not seen"), (157, "it is deleted already"), (165, "not seen, not public or boosted already"), (199, "no such number of a server"), (210, "no place below 0"), (216, "no such server"), (218, "no such person"), (220, "both are one"), (222, "no such post"), (47, "there are 10 people"), (73, "asked, followed or blocked already"), (88, "the other one does not ask"), (90, "neither asked nor followed"), (95, "it is so already")]
/-- words of the constructors of what is thrown, that no table keeps -/
def vh_wl : List Cond := [.declares (Bundle.initS "java/lang/RuntimeException"), .declares (Bundle.initS "java/lang/Exception"), .declares (Bundle.initS Bundle.tN), .castable "java/lang/IndexOutOfBoundsException" "java/lang/IndexOutOfBoundsException", .castable "java/lang/IllegalArgumentException" "java/lang/IllegalArgumentException", .castable "java/lang/IllegalStateException" "java/lang/IllegalStateException"]
theorem vh_wt : ∀ w ∈ vh_wl, w.onTables = true := by decide +kernel
theorem vh_wm {s U : State} (h : ∀ w ∈ vh_wl, va_Nw w s) (hW : s.WarmedH U.vm) : ∀ w ∈ vh_wl, va_Nw w U := by
  intro w hw
  have h1 := h w hw
  simp only [vh_wl, List.mem_cons, List.not_mem_nil, or_false] at hw
  rcases hw with rfl | rfl | rfl | rfl | rfl | rfl
  · exact va_Nw.warmD hW h1
  · exact va_Nw.warmD hW h1
  · exact va_Nw.warmD hW h1
  · exact va_Nw.warmC hW h1
  · exact va_Nw.warmC hW h1
  · exact va_Nw.warmC hW h1
def vh_F (mi : Nat) (U : State) : Prop := (∀ q ∈ vh_strs, ∃ a, vk_R "Villagepost" q.1 q.2 a U) ∧ va_Mi "[Ljava/lang/Object;" mi U ∧ va_Dc U ∧ va_AO "java/lang/Object" U ∧ va_AO "Villagepost$Server" U ∧ ∀ w ∈ vh_wl, va_Nw w U
theorem vh_F.same {mi : Nat} {u U : State} (h : vh_F mi u) (hv : u.vm = U.vm) : vh_F mi U := by
  have ha : u.vm.Alike U.vm := by rw [hv]; exact Vm.Alike.refl _
  obtain ⟨h1, h2, h3, h4, h5, h7⟩ := h
  refine ⟨fun q hq => ?_, h2.moved ha, h3.moved ha, h4.moved ha, h5.moved ha, fun w hw => va_Nw.same (vh_wt w hw) hv (h7 w hw)⟩
  obtain ⟨a, h6⟩ := h1 q hq
  exact ⟨a, vk_R.same hv.symm h6⟩
theorem vh_F.warm {mi : Nat} {s U : State} (h : vh_F mi s) (hW : s.WarmedH U.vm) : vh_F mi U := by
  obtain ⟨h1, h2, h3, h4, h5, h7⟩ := h
  refine ⟨fun q hq => ?_, h2.moved hW.alike, h3.moved hW.alike, h4.moved hW.alike, h5.moved hW.alike, vh_wm h7 hW⟩
  obtain ⟨a, h6⟩ := h1 q hq
  exact ⟨a, vk_R.warm hW h6⟩
/-- the statics that are read: the empty array of ArrayList is e0; Throwable's two -/
def vh_Z (_ : Nat → ClassId) (e0 : Nat) (A : Nat → Prop) (U : State) (H : Heap) : Prop := va_T (.object "java/lang/Object") e0 0 (fun _ => .null) A U H ∧ va_Z "java/util/ArrayList" "DEFAULTCAPACITY_EMPTY_ELEMENTDATA" "[Ljava/lang/Object;" (.ref e0) A U H ∧ vx_Zq Bundle.tN "UNASSIGNED_STACK" Bundle.steD A U H ∧ vx_Zq Bundle.tN "SUPPRESSED_SENTINEL" Bundle.listD A U H
theorem vh_Z.call {cy : Nat → ClassId} {e0 : Nat} {A0 B : Nat → Prop} {s U : State} {H : Heap} {locs : List Loc} (h : vh_Z cy e0 A0 s s.heap) (hS : va_S A0 s.heap H locs) (hB : ∀ q, B q → A0 q) (hvm : s.vm.Alike U.vm) (hU : U.heap = H) : vh_Z cy e0 B U U.heap := by
  rw [hU]
  obtain ⟨h0, h⟩ := h
  exact ⟨((h0.kept hS.2.1).narrow hB).moved hvm, ((h.1.kept hS.2.1).narrow hB).moved hvm, ((h.2.1.kept hS.2.1).narrow hB).moved hvm, ((h.2.2.kept hS.2.1).narrow hB).moved hvm⟩
theorem vh_Z.same {cy : Nat → ClassId} {e0 : Nat} {A : Nat → Prop} {u U : State} {H : Heap} (h : vh_Z cy e0 A u H) (hv : u.vm.Alike U.vm) : vh_Z cy e0 A U H := ⟨h.1.moved hv, h.2.1.moved hv, h.2.2.1.moved hv, h.2.2.2.moved hv⟩
/-- a contract's start, with these -/
def vh_P (D : va_G) (cy : Nat → ClassId) (e0 mi : Nat) (av : List Value) (sz : Nat) (W : va_W) : Array Value → State → Prop := va_Pc av (fun U => U.heap.size = sz ∧ va_P D vwCl W U.heap ∧ vg_E D cy U ∧ va_D (fun _ => True) W ∧ vh_F mi U ∧ vh_Z cy e0 (va_A W sz) U U.heap)
theorem vh_P.blind {D : va_G} {cy : Nat → ClassId} {e0 mi : Nat} {av : List Value} {sz : Nat} {W : va_W} : FrameBlind (vh_P D cy e0 mi av sz W) := fun a U g mk q => by
  obtain ⟨q0, q1, q2, q3, q4, q5, q6⟩ := q
  exact ⟨q0, q1, q2, q3.same (U := U.calling g mk a) rfl, q4, q5.same (U := U.calling g mk a) rfl, q6.same (U := U.calling g mk a) (Vm.Alike.refl U.vm)⟩
theorem vh_P.of {D : va_G} {cy : Nat → ClassId} {e0 mi : Nat} {av : List Value} {W : va_W} {A A0 : Nat → Prop} {s : State} {H : Heap} {locs : List Loc} (hE : vg_E D cy s) (hF : vh_F mi s) (hZ : vh_Z cy e0 A0 s s.heap) (hS : va_S A0 s.heap H locs) (hB : ∀ q, va_A W H.size q → A0 q) (hP : va_P D vwCl W H) (hD : va_D A W) : ∀ U : State, U.heap = H → s.WarmedH U.vm → vh_P D cy e0 mi av H.size W av.toArray U := fun U hU hW => ⟨rfl, by rw [hU], by rw [hU]; exact hP, hE.warm hW, hD.weaken (fun _ _ _ _ => trivial), hF.warm hW, hZ.call hS hB hW.alike hU⟩
theorem vh_P.preS {D : va_G} {cy : Nat → ClassId} {e0 mi : Nat} {av : List Value} {W : va_W} {A A0 : Nat → Prop} {s : State} {H : Heap} {locs : List Loc} (hE : vg_E D cy s) (hF : vh_F mi s) (hZ : vh_Z cy e0 A0 s s.heap) (hS : va_S A0 s.heap H locs) (hB : ∀ q, va_A W H.size q → A0 q) (hP : va_P D vwCl W H) (hD : va_D A W) : PreS s H (vh_P D cy e0 mi av H.size W) av := ⟨vh_P.blind, vh_P.of hE hF hZ hS hB hP hD⟩
theorem vh_P.preV {D : va_G} {cy : Nat → ClassId} {e0 mi b : Nat} {As : List Value} {ws W : va_W} {A A0 : Nat → Prop} {s : State} {H : Heap} {locs : List Loc} {ci : Nat} {q : vw_C} {fs : List Value} (hE : vg_E D cy s) (hF : vh_F mi s) (hZ : vh_Z cy e0 A0 s s.heap) (hS : va_S A0 s.heap H locs) (hB : ∀ q, va_A W H.size q → A0 q) (hPs : va_P D vwCl ws H) (q0 : Nat) (he : ws[q0]? = some (b, .inr (ci, fs))) (hc : vwCl[ci]? = some q) (hP : va_P D vwCl W H) (hD : va_D A W) : PreV s H q.1 b (vh_P D cy e0 mi (.ref b :: As) H.size W) As := ⟨vh_P.blind, va_recv hE.1 hPs hc he, vh_P.of hE hF hZ hS hB hP hD⟩
/-- the empty array's length, read outside the world -/
theorem vh_len0 {p : Program} {l : Launch} {e : Env} {R : Room} {s : State} {m : MethodId} {args : Array Value} {below : List Frame} {meth : Method} {c : Code} {H : Heap} {locs : List Loc} {cells slots : Nat} {Q : State → Prop} {cc : ByteArray} {pc : Nat} {ls : Array Slot} {rest : List Value} {D : va_G} {A : Nat → Prop} {cy : Nat → ClassId} {e0 : Nat}
    (hexec : p.tables.exec = Jvm.exec) (hb : c.code = cc) (hE : vg_E D cy s) (hS : va_S A s.heap H locs) (hZ : vh_Z cy e0 A s s.heap) (hdg : decode cc pc = .ok (.arraylength, 1))
    (kk : W p l e R s m args below meth c H locs cells slots Q (F0 m (pc + 1) ls (.int 0 :: rest))) : W p l e R s m args below meth c H locs cells slots Q (F0 m pc ls (.ref e0 :: rest)) := by
  obtain ⟨cell, h1, h2, h3, h4, h5, h6, h7⟩ := hZ.1.kept hS.2.1
  exact W.alen (n := Int32.ofNat 0) hexec hb h1 h2 h5 rfl rfl hdg kk
/-! new arrays, of the classes in cy -/
section VHN
variable {p : Program} {l : Launch} {e : Env} {R : Room} {s : State} {m : MethodId} {args : Array Value} {below : List Frame} {meth : Method} {c : Code} {H : Heap} {locs : List Loc} {cells slots : Nat} {Q : State → Prop}
variable {cc : ByteArray} {pc : Nat} {ls : Array Slot} {rest : List Value} {D : va_G} {A : Nat → Prop} {ws : va_W} {H0 : Heap} {cy : Nat → ClassId}
theorem vh_newI (hexec : p.tables.exec = Jvm.exec) (hb : c.code = cc) (harr : (Cond.arrayClass .int).before args s = true) (hE : vg_E D cy s) (hP : va_P D vwCl ws H) (hD : va_D A ws) (hS : va_S A H0 H locs) (hA : ∀ q, H0.size ≤ q → A q)
    {n : Int32} {N' : Nat} (hn : ¬ n < 0) (hN : n.toNatClampNeg = N') (hbytes : N' * componentBytes .int ≤ 536870912) (hcells : cells + 1 ≤ R.cells) (hslots : slots + N' ≤ R.slots) (hdg : decode cc pc = .ok (.newarray .int, 2))
    (kk : ∀ (q : Nat) (H1 : Heap), va_P D vwCl (ws ++ [(q, .inl (cy 0, N', .inl (fun _ => 0)))]) H1 → va_D A (ws ++ [(q, .inl (cy 0, N', .inl (fun _ => 0)))]) → va_S A H0 H1 locs → W p l e R s m args below meth c H1 locs (cells + 1) (slots + N') Q (F0 m (pc + 2) ls (.ref q :: rest))) : W p l e R s m args below meth c H locs cells slots Q (F0 m pc ls (.int n :: rest)) := by
  refine va_newa (atype := .int) (a0 := (N', .inl (fun _ => 0))) hexec hb harr rfl hE.1 hP hD hS hA (fun cA => rfl) hn hN hbytes hcells hslots hdg (fun q cA H1 hK1 hP1 hD1 hS1 => ?_)
  have ec : cA = cy 0 := Option.some.inj ((hK1.2 5 (cA, .int) rfl).2.symm.trans (hE.1.2 0 (cy 0, .int) rfl).2)
  subst ec
  exact kk q H1 hP1 hD1 hS1
theorem vh_newJ (hexec : p.tables.exec = Jvm.exec) (hb : c.code = cc) (harr : (Cond.arrayClass .long).before args s = true) (hE : vg_E D cy s) (hP : va_P D vwCl ws H) (hD : va_D A ws) (hS : va_S A H0 H locs) (hA : ∀ q, H0.size ≤ q → A q)
    {n : Int32} {N' : Nat} (hn : ¬ n < 0) (hN : n.toNatClampNeg = N') (hbytes : N' * componentBytes .long ≤ 536870912) (hcells : cells + 1 ≤ R.cells) (hslots : slots + N' ≤ R.slots) (hdg : decode cc pc = .ok (.newarray .long, 2))
    (kk : ∀ (q : Nat) (H1 : Heap), va_P D vwCl (ws ++ [(q, .inl (cy 1, N', .inr (.inl (fun _ => 0))))]) H1 → va_D A (ws ++ [(q, .inl (cy 1, N', .inr (.inl (fun _ => 0))))]) → va_S A H0 H1 locs → W p l e R s m args below meth c H1 locs (cells + 1) (slots + N') Q (F0 m (pc + 2) ls (.ref q :: rest))) : W p l e R s m args below meth c H locs cells slots Q (F0 m pc ls (.int n :: rest)) := by
  refine va_newa (atype := .long) (a0 := (N', .inr (.inl (fun _ => 0)))) hexec hb harr rfl hE.1 hP hD hS hA (fun cA => rfl) hn hN hbytes hcells hslots hdg (fun q cA H1 hK1 hP1 hD1 hS1 => ?_)
  have ec : cA = cy 1 := Option.some.inj ((hK1.2 5 (cA, .long) rfl).2.symm.trans (hE.1.2 1 (cy 1, .long) rfl).2)
  subst ec
  exact kk q H1 hP1 hD1 hS1
theorem vh_newZ (hexec : p.tables.exec = Jvm.exec) (hb : c.code = cc) (harr : (Cond.arrayClass .boolean).before args s = true) (hE : vg_E D cy s) (hP : va_P D vwCl ws H) (hD : va_D A ws) (hS : va_S A H0 H locs) (hA : ∀ q, H0.size ≤ q → A q)
    {n : Int32} {N' : Nat} (hn : ¬ n < 0) (hN : n.toNatClampNeg = N') (hbytes : N' * componentBytes .boolean ≤ 536870912) (hcells : cells + 1 ≤ R.cells) (hslots : slots + N' ≤ R.slots) (hdg : decode cc pc = .ok (.newarray .boolean, 2))
    (kk : ∀ (q : Nat) (H1 : Heap), va_P D vwCl (ws ++ [(q, .inl (cy 2, N', .inl (fun _ => 0)))]) H1 → va_D A (ws ++ [(q, .inl (cy 2, N', .inl (fun _ => 0)))]) → va_S A H0 H1 locs → W p l e R s m args below meth c H1 locs (cells + 1) (slots + N') Q (F0 m (pc + 2) ls (.ref q :: rest))) : W p l e R s m args below meth c H locs cells slots Q (F0 m pc ls (.int n :: rest)) := by
  refine va_newa (atype := .boolean) (a0 := (N', .inl (fun _ => 0))) hexec hb harr rfl hE.1 hP hD hS hA (fun cA => rfl) hn hN hbytes hcells hslots hdg (fun q cA H1 hK1 hP1 hD1 hS1 => ?_)
  have ec : cA = cy 2 := Option.some.inj ((hK1.2 5 (cA, .boolean) rfl).2.symm.trans (hE.1.2 2 (cy 2, .boolean) rfl).2)
  subst ec
  exact kk q H1 hP1 hD1 hS1
theorem vh_ra {C : String} {U : State} {a b : ClassId} (h1 : va_RA U a (.object C)) (h2 : va_RA U b (.object C)) : a = b := by
  obtain ⟨-, -, -, -, -, h3⟩ := h1
  obtain ⟨-, -, -, -, -, h4⟩ := h2
  exact Option.some.inj (h3.symm.trans h4)
theorem vh_newO (hexec : p.tables.exec = Jvm.exec) (hb : c.code = cc) {own : String} {index : Nat} (hown : s.vm.findClass own = some m.cls) (hclink : (Cond.classLink own index "java/lang/Object").before args s = true) (hover : va_AO "java/lang/Object" s) (hE : vg_E D cy s) (hP : va_P D vwCl ws H) (hD : va_D A ws) (hS : va_S A H0 H locs) (hA : ∀ q, H0.size ≤ q → A q)
    {n : Int32} {N' : Nat} (hn : ¬ n < 0) (hN : n.toNatClampNeg = N') (hbytes : N' * 4 ≤ 536870912) (hcells : cells + 1 ≤ R.cells) (hslots : slots + N' ≤ R.slots) (hdg : decode cc pc = .ok (.anewarray index, 3))
    (kk : ∀ (q : Nat) (H1 : Heap), va_P D vwCl (ws ++ [(q, .inl (cy 4, N', .inr (.inr (.inr (.inr (fun _ => none))))))]) H1 → va_D A (ws ++ [(q, .inl (cy 4, N', .inr (.inr (.inr (.inr (fun _ => none))))))]) → va_S A H0 H1 locs → W p l e R s m args below meth c H1 locs (cells + 1) (slots + N') Q (F0 m (pc + 3) ls (.ref q :: rest))) : W p l e R s m args below meth c H locs cells slots Q (F0 m pc ls (.int n :: rest)) := by
  refine va_newq hexec hb hown hclink hover hE.1 hP hD hS hA hn hN hbytes hcells hslots hdg (fun q cA H1 hK1 hP1 hD1 hS1 => ?_)
  have ec : cA = cy 4 := vh_ra (hK1.2 5 (cA, .object "java/lang/Object") rfl).2 (hE.1.2 4 (cy 4, .object "java/lang/Object") rfl).2
  subst ec
  exact kk q H1 hP1 hD1 hS1
theorem vh_newS (hexec : p.tables.exec = Jvm.exec) (hb : c.code = cc) {own : String} {index : Nat} (hown : s.vm.findClass own = some m.cls) (hclink : (Cond.classLink own index "Villagepost$Server").before args s = true) (hover : va_AO "Villagepost$Server" s) (hE : vg_E D cy s) (hP : va_P D vwCl ws H) (hD : va_D A ws) (hS : va_S A H0 H locs) (hA : ∀ q, H0.size ≤ q → A q)
    {n : Int32} {N' : Nat} (hn : ¬ n < 0) (hN : n.toNatClampNeg = N') (hbytes : N' * 4 ≤ 536870912) (hcells : cells + 1 ≤ R.cells) (hslots : slots + N' ≤ R.slots) (hdg : decode cc pc = .ok (.anewarray index, 3))
    (kk : ∀ (q : Nat) (H1 : Heap), va_P D vwCl (ws ++ [(q, .inl (cy 3, N', .inr (.inr (.inr (.inr (fun _ => none))))))]) H1 → va_D A (ws ++ [(q, .inl (cy 3, N', .inr (.inr (.inr (.inr (fun _ => none))))))]) → va_S A H0 H1 locs → W p l e R s m args below meth c H1 locs (cells + 1) (slots + N') Q (F0 m (pc + 3) ls (.ref q :: rest))) : W p l e R s m args below meth c H locs cells slots Q (F0 m pc ls (.int n :: rest)) := by
  refine va_newq hexec hb hown hclink hover hE.1 hP hD hS hA hn hN hbytes hcells hslots hdg (fun q cA H1 hK1 hP1 hD1 hS1 => ?_)
  have ec : cA = cy 3 := vh_ra (hK1.2 5 (cA, .object "Villagepost$Server") rfl).2 (hE.1.2 3 (cy 3, .object "Villagepost$Server") rfl).2
  subst ec
  exact kk q H1 hP1 hD1 hS1
end VHN
