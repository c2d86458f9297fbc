/-! the law's environment, out of what the Statement gives of the start -/
theorem asg_self (vm : Vm) (c : ClassId) : vm.assignable c c = true := by
  show vm.assignableAux (255 + 1) c c = true
  rw [Vm.assignableAux]
  simp only [beq_self_eq_true, Bool.true_or]
theorem cast_self {U : State} {C : String} {c : ClassId} (h : U.vm.findClass C = some c) : va_Nw (.castable C C) U := by
  unfold va_Nw
  simp [Cond.before, Cond.holds, Cond.value, h, asg_self]
theorem env_cl {s : State} {b : Nat} (hts : ∀ w ∈ lw_tbl, w.before #[Value.ref b] s = true) : ∃ D : va_G, ∀ (k : Nat) (q : vw_C), vwCl[k]? = some q → u_Kn s q.1 q.2.1 q.2.2 (D.1 k) (D.2 k) := by
  obtain ⟨c0, i0, h0⟩ := u_known (C := RJx4a65c) (T := TJx4a65c) (N := 3) (n := 3) hts inJx4a65c (hts (.instantiable RJx4a65c 3) (by decide +kernel))
  obtain ⟨c1, i1, h1⟩ := u_known (C := RX0) (T := TX0) (N := 5) (n := 5) hts inX0 (hts (.instantiable RX0 5) (by decide +kernel))
  obtain ⟨c2, i2, h2⟩ := u_known (C := RX1) (T := TX1) (N := 7) (n := 7) hts inX1 (hts (.instantiable RX1 7) (by decide +kernel))
  obtain ⟨c3, i3, h3⟩ := u_known (C := RX2) (T := TX2) (N := 6) (n := 6) hts inX2 (hts (.instantiable RX2 6) (by decide +kernel))
  obtain ⟨c4, i4, h4⟩ := u_known (C := RX3) (T := TX3) (N := 5) (n := 5) hts inX3 (hts (.instantiable RX3 5) (by decide +kernel))
  obtain ⟨c5, i5, h5⟩ := u_known (C := RX4) (T := TX4) (N := 6) (n := 6) hts inX4 (hts (.instantiable RX4 6) (by decide +kernel))
  refine ⟨(fun k => if k = 0 then c0 else if k = 1 then c1 else if k = 2 then c2 else if k = 3 then c3 else if k = 4 then c4 else c5, fun k => if k = 0 then i0 else if k = 1 then i1 else if k = 2 then i2 else if k = 3 then i3 else if k = 4 then i4 else i5), fun k q hq => ?_⟩
  match k, hq with
  | 0, hq => cases hq; exact h0
  | 1, hq => cases hq; exact h1
  | 2, hq => cases hq; exact h2
  | 3, hq => cases hq; exact h3
  | 4, hq => cases hq; exact h4
  | 5, hq => cases hq; exact h5
  | k + 6, hq => simp [vwCl] at hq
theorem env_tys {s : State} {b : Nat} (hts : ∀ w ∈ lw_tbl, w.before #[Value.ref b] s = true) : ∃ cy : Nat → ClassId, ∀ (k : Nat) (q : ClassId × FieldType), (vg_tys cy)[k]? = some q → ArrOfT s q.1 q.2 ∧ va_RA s q.1 q.2 := by
  obtain ⟨k0, K0, p0, a0, b0, d0⟩ := Cond.arrayClass_spec (args := #[Value.ref b]) (first := s) (o := none) (s := s) (idx := []) (type := .int) (hts (.arrayClass .int) (by decide +kernel))
  obtain ⟨k1, K1, p1, a1, b1, d1⟩ := Cond.arrayClass_spec (args := #[Value.ref b]) (first := s) (o := none) (s := s) (idx := []) (type := .long) (hts (.arrayClass .long) (by decide +kernel))
  obtain ⟨k2, K2, p2, a2, b2, d2⟩ := Cond.arrayClass_spec (args := #[Value.ref b]) (first := s) (o := none) (s := s) (idx := []) (type := .boolean) (hts (.arrayClass .boolean) (by decide +kernel))
  obtain ⟨p3, k3, K3, a3, -, b3, d3, f3⟩ := Cond.arrayOver_spec (args := #[Value.ref b]) (first := s) (o := none) (s := s) (idx := []) (n := "Villagepost$Server") (hts (.arrayOver (.object "Villagepost$Server")) (by decide +kernel))
  obtain ⟨p4, k4, K4, a4, -, b4, d4, f4⟩ := Cond.arrayOver_spec (args := #[Value.ref b]) (first := s) (o := none) (s := s) (idx := []) (n := "java/lang/Object") (hts (.arrayOver (.object "java/lang/Object")) (by decide +kernel))
  refine ⟨fun k => if k = 0 then k0 else if k = 1 then k1 else if k = 2 then k2 else if k = 3 then k3 else k4, fun k q hq => ?_⟩
  match k, hq with
  | 0, hq => cases hq; exact ⟨fun N z => ⟨(fun k h => by cases h), K0, b0, p0, d0⟩, a0⟩
  | 1, hq => cases hq; exact ⟨fun N z => ⟨(fun k h => by cases h), K1, b1, p1, d1⟩, a1⟩
  | 2, hq => cases hq; exact ⟨fun N z => ⟨(fun k h => by cases h), K2, b2, p2, d2⟩, a2⟩
  | 3, hq => cases hq; exact ⟨fun N z => ⟨(fun k h => by cases h), K3, b3, p3, d3⟩, K3, p3, b3, d3, a3, f3⟩
  | 4, hq => cases hq; exact ⟨fun N z => ⟨(fun k h => by cases h), K4, b4, p4, d4⟩, K4, p4, b4, d4, a4, f4⟩
  | k + 5, hq => simp [vg_tys] at hq
theorem env_srv {s : State} {b : Nat} (hts : ∀ w ∈ lw_tbl, w.before #[Value.ref b] s = true) : ∃ c, s.vm.findClass "Villagepost$Server" = some c := by
  obtain ⟨p3, k3, K3, a3, -, b3, d3, f3⟩ := Cond.arrayOver_spec (args := #[Value.ref b]) (first := s) (o := none) (s := s) (idx := []) (n := "Villagepost$Server") (hts (.arrayOver (.object "Villagepost$Server")) (by decide +kernel))
  exact ⟨p3, a3⟩
theorem env_nw : ∀ w ∈ vg_nwl, w.onTables = true ∧ (w ∈ lw_tbl ∨ w = .castable "Villagepost$Server" "Villagepost$Server") := by decide +kernel
theorem env_wl : ∀ w ∈ vh_wl, w ∈ lw_tbl := by decide +kernel
theorem env_st : ∀ q ∈ vh_strs, Cond.stringRef "Villagepost" q.1 q.2 ∈ lw_tbl := by decide +kernel
theorem env_E {s : State} {b : Nat} (hts : ∀ w ∈ lw_tbl, w.before #[Value.ref b] s = true) : ∃ (D : va_G) (cy : Nat → ClassId), vg_E D cy s := by
  obtain ⟨D, hD⟩ := env_cl hts
  obtain ⟨cy, hy⟩ := env_tys hts
  obtain ⟨c, hc⟩ := env_srv hts
  refine ⟨D, cy, ⟨hD, hy⟩, fun w hw => ?_⟩
  obtain ⟨h1, h2⟩ := env_nw w hw
  rcases h2 with h2 | h2
  · exact va_Nw.of h1 (hts w h2)
  · rw [h2]; exact cast_self hc
theorem env_F {s : State} {b : Nat} (hts : ∀ w ∈ lw_tbl, w.before #[Value.ref b] s = true) (hgv : (Jvm.Cond.and given_1 narrow_1).before #[Value.ref b] s = true) : ∃ mi, vh_F mi s := by
  have hs := flat_of_before _ hgv
  obtain ⟨mi, hmi⟩ := va_Mi.of (hs (.isRef (.mirror "[Ljava/lang/Object;")) (by decide +kernel))
  have hx : ∀ q ∈ vh_strs, (Cond.exactly (.string "Villagepost" q.1) "java/lang/String").before #[Value.ref b] s = true := fun q hq => hs _ ((show ∀ q ∈ vh_strs, Cond.exactly (.string "Villagepost" q.1) "java/lang/String" ∈ _ from by decide +kernel) q hq)
  refine ⟨mi, fun q hq => ?_, hmi, va_Dc.of (hts (.declares ⟨"java/lang/Object", "getClass", "()Ljava/lang/Class;"⟩) (by decide +kernel)), va_AO.of (hts (.arrayOver (.object "java/lang/Object")) (by decide +kernel)), va_AO.of (hts (.arrayOver (.object "Villagepost$Server")) (by decide +kernel)), fun w hw => va_Nw.of (vh_wt w hw) (hts w (env_wl w hw))⟩
  obtain ⟨a, c, cA, kA, q1, -⟩ := Cond.exactly_spec (args := #[Value.ref b]) (first := s) (o := none) (s := s) (idx := []) (t := .string "Villagepost" q.1) (cls := "java/lang/String") (hx q hq)
  exact ⟨a, vk_R.of (hts _ (env_st q hq)) q1⟩
theorem env_Z {s : State} {b : Nat} (cy : Nat → ClassId) (hts : ∀ w ∈ lw_tbl, w.before #[Value.ref b] s = true) (hgv : (Jvm.Cond.and given_1 narrow_1).before #[Value.ref b] s = true) : ∃ e0, vh_Z cy e0 (fun q : Nat => s.heap.size ≤ q) s s.heap := by
  have hs := flat_of_before _ hgv
  have hA : ∀ a : Nat, a < s.heap.size → ¬ (fun q : Nat => s.heap.size ≤ q) a := fun a h => Nat.not_le.mpr h
  obtain ⟨e0, he0, hT⟩ := va_Tof (args := #[Value.ref b]) (s := s) (tm := .static "java/util/ArrayList" "DEFAULTCAPACITY_EMPTY_ELEMENTDATA" "[Ljava/lang/Object;") (ty := .object "java/lang/Object") (N := 0) (f := fun _ => .null) (by decide) (hs (.arrayOf (.static "java/util/ArrayList" "DEFAULTCAPACITY_EMPTY_ELEMENTDATA" "[Ljava/lang/Object;") (.object "java/lang/Object")) (by decide +kernel)) (va_eqt (hs (.eq (.length (.static "java/util/ArrayList" "DEFAULTCAPACITY_EMPTY_ELEMENTDATA" "[Ljava/lang/Object;")) (.int 0)) (by decide +kernel))) (fun j hj => absurd hj (Nat.not_lt_zero _)) hA
  exact ⟨e0, hT, va_Zref (hts (.laysStatic "java/util/ArrayList" "DEFAULTCAPACITY_EMPTY_ELEMENTDATA" "[Ljava/lang/Object;") (by decide +kernel)) (hts (.initialized "java/util/ArrayList") (by decide +kernel)) he0 hA, vx_Zqof (hts (.laysStatic Bundle.tN "UNASSIGNED_STACK" Bundle.steD) (by decide +kernel)) (hts (.initialized Bundle.tN) (by decide +kernel)) (hs (.isRef (.static Bundle.tN "UNASSIGNED_STACK" Bundle.steD)) (by decide +kernel)) hA, vx_Zqof (hts (.laysStatic Bundle.tN "SUPPRESSED_SENTINEL" Bundle.listD) (by decide +kernel)) (hts (.initialized Bundle.tN) (by decide +kernel)) (hs (.isRef (.static Bundle.tN "SUPPRESSED_SENTINEL" Bundle.listD)) (by decide +kernel)) hA⟩
theorem law_env {p : Program} {s : State} {m : MethodId} {meth : Method} {c : Code} {b L : Nat} {xs : Nat → Int32} (l : Launch) (hflags : l.flags = flags0) (hL : L ≤ 260) (C0 : lw_At p s m meth c b L xs) : ∃ (D : va_G) (cy : Nat → ClassId) (e0 mi : Nat), LE p l s m c b L xs (fun q : Nat => s.heap.size ≤ q) D cy e0 mi := by
  obtain ⟨hx, hb, hr, hml, hown, hts, hX, hbl, hlocks, hgv⟩ := C0
  obtain ⟨D, cy, hE⟩ := env_E hts
  obtain ⟨mi, hF⟩ := env_F hts hgv
  obtain ⟨e0, hZ⟩ := env_Z cy hts hgv
  exact ⟨D, cy, e0, mi, ⟨hx, hb, hml, hown, fun w hw => hts w (wsL_law_in w hw)⟩, ⟨hX, hbl, hL, by rw [Launch.stackTraces, hflags]; decide +kernel, fun _ h => h, Nat.not_le.mpr hbl⟩, hE, hF, hZ⟩
