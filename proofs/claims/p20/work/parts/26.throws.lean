theorem vp_pcg {α : Type _} {a b : List α} (h : ∀ n : List α → Nat, (∀ x y : List α, n (x ++ y) = n x + n y) → n [] = 0 → n a = n b) : a.Perm b := by
  classical
  rw [List.perm_iff_count]
  intro z
  refine h (List.count z) (fun x y => ?_) ?_
  · exact List.count_append
  · exact List.count_nil
theorem vp_pc {a b : va_W} (h : ∀ n : va_W → Nat, (∀ x y : va_W, n (x ++ y) = n x + n y) → n [] = 0 → n a = n b) : a.Perm b := vp_pcg h
/-! methods that throw: they start at vh_P and end at vh_X; nothing of the world is changed -/
def vh_X (D : va_G) (E : String) (W : va_W) (sz : Nat) : String → State → State → Prop := vx_X (fun _ : Unit => True) (fun E' _ t => E' = E ∧ va_P D vwCl W t.heap) (va_A W sz)
def vh_N (W : va_W) (sz : Nat) : Array Value → State → Outcome → State → Prop := va_Qv (S := Unit) (fun _ => False) (fun _ _ => True) (va_A W sz)
theorem vh_gO : ∀ w ∈ Cond.classLink RX4 208 "java/lang/IndexOutOfBoundsException" :: Cond.initialized "java/lang/IndexOutOfBoundsException" :: vx_atS RX4 212 "java/lang/IndexOutOfBoundsException" ["java/lang/RuntimeException", "java/lang/Exception"], vx_ot w = true := by decide +kernel
theorem vh_bO : ∀ w ∈ (vx_atS RX4 212 "java/lang/IndexOutOfBoundsException" ["java/lang/RuntimeException", "java/lang/Exception"]).filter (fun w => !goodWord w), w ∈ vh_wl := by decide +kernel
theorem vh_gA : ∀ w ∈ Cond.classLink RX4 119 "java/lang/IllegalArgumentException" :: Cond.initialized "java/lang/IllegalArgumentException" :: vx_atS RX4 123 "java/lang/IllegalArgumentException" ["java/lang/RuntimeException", "java/lang/Exception"], vx_ot w = true := by decide +kernel
theorem vh_bA : ∀ w ∈ (vx_atS RX4 123 "java/lang/IllegalArgumentException" ["java/lang/RuntimeException", "java/lang/Exception"]).filter (fun w => !goodWord w), w ∈ vh_wl := by decide +kernel
theorem vh_gS : ∀ w ∈ Cond.classLink RX4 45 "java/lang/IllegalStateException" :: Cond.initialized "java/lang/IllegalStateException" :: vx_atS RX4 49 "java/lang/IllegalStateException" ["java/lang/RuntimeException", "java/lang/Exception"], vx_ot w = true := by decide +kernel
theorem vh_bS : ∀ w ∈ (vx_atS RX4 49 "java/lang/IllegalStateException" ["java/lang/RuntimeException", "java/lang/Exception"]).filter (fun w => !goodWord w), w ∈ vh_wl := by decide +kernel
section VHT
variable {p : Program} {l : Launch} {e : Env} {R : Room} {s : State} {m : MethodId} {args : Array Value} {below : List Frame} {meth : Method} {c : Code} {H : Heap} {locs : List Loc} {cells slots : Nat}
variable {cc : ByteArray} {pc : Nat} {ls : Array Slot} {rest st0 : List Value} {D : va_G} {Qc : Array Value → State → Outcome → State → Prop}
/-- the throw itself -/
theorem vh_thr {W0 ws : va_W} {cy : Nat → ClassId} {e0 mi mc ms : Nat} {cls text : String} {ik is ic : Nat} (hexec : p.tables.exec = Jvm.exec) (hb : c.code = cc) (hfl : l.stackTraces = false) (hown : s.vm.findClass RX4 = some m.cls) (hF : vh_F mi s) (hZ : vh_Z cy e0 (va_A W0 s.heap.size) s s.heap) (hcls : Bundle.fit cls = true)
    (hk : (Cond.classLink RX4 ik cls).before args s = true) (hini : (Cond.initialized cls).before args s = true) (hstr : (is, text) ∈ vh_strs)
    (h1 : ∀ w ∈ (vx_atS RX4 ic cls ["java/lang/RuntimeException", "java/lang/Exception"]).filter goodWord, w.before args s = true)
    (h2 : ∀ w ∈ (vx_atS RX4 ic cls ["java/lang/RuntimeException", "java/lang/Exception"]).filter (fun w => !goodWord w), w ∈ vh_wl)
    (hgood : ∀ w ∈ Cond.classLink RX4 ik cls :: Cond.initialized cls :: vx_atS RX4 ic cls ["java/lang/RuntimeException", "java/lang/Exception"], vx_ot w = true)
    (hS : va_S (va_A W0 s.heap.size) s.heap H locs) (hP : va_P D vwCl ws H) (hq : ws.Perm W0) (hsize : ls.size = c.maxLocals)
    (d0 : decode cc pc = .ok (.new ik, 3)) (d3 : decode cc (pc + 3) = .ok (.dup, 1)) (d4 : decode cc (pc + 4) = .ok (.ldc is, 2)) (d6 : decode cc (pc + 6) = .ok (.invokespecial ic, 3)) (d9 : decode cc (pc + 9) = .ok (.athrow, 1))
    (ht : ∀ x ∈ c.exceptionTable.toList, False) (hlocks : meth.locks = false)
    (hRframes : 5 < R.frames) (hRlocals : (rest.map fun v => v.category).sum + 82 ≤ R.locals) (hRcells : cells + 1 ≤ R.cells) (hRslots : slots + 6 ≤ R.slots) (hc : cells + 1 ≤ mc) (hs : slots + 6 ≤ ms) :
    W p l e R s m args below meth c H locs cells slots (vx_MQ below Qc (vh_X D cls W0 s.heap.size) args s mc ms (va_A W0 s.heap.size)) (F0 m pc ls rest) := by
  obtain ⟨sa, hsa⟩ := hF.1 _ hstr
  have hat := vx_hat h1 h2 (fun w hw => va_Nw.use (vh_wt w hw) (hF.2.2.2.2.2 w hw))
  refine vx_throwS hexec hb hfl hown hcls (by decide +kernel) hk hini hsa hat hgood hZ.2.2.1 hZ.2.2.2 hS hsize d0 d3 d4 d6 d9 (fun x hx => (ht x hx).elim) hRframes hRlocals hRcells hRslots hlocks (fun t hal hz hkk => ⟨(), trivial, ⟨rfl, ?_⟩, ?_⟩) (fun z hz => hS.2.2 z hz) hc hs
  · have hP0 := vp_iff.mp (vp_perm hP hq)
    exact vp_iff.mpr (fun q hq9 => (hP0 q hq9).kept (hkk q.1 (hP0 q hq9).lt))
  · exact ⟨Nat.le_trans hS.1 hz, fun q h3 h4 => (hkk q (Nat.lt_of_lt_of_le h3 hS.1)).trans (hS.2.1 q h3 h4)⟩
/-- a call that throws, not caught here -/
theorem vh_bad {W0 ws wc wr : va_W} {a : Array Value} {mc ms mc' ms' : Nat} {E : String} (hr : vx_Run p l e R s m args below meth c H locs cells slots mc ms (F0 m pc ls st0) rest (vh_N wc H.size a) (vh_X D E wc H.size) (va_A wc H.size))
    (hP : va_P D vwCl ws H) (hD : va_D (va_A W0 s.heap.size) ws) (hS : va_S (va_A W0 s.heap.size) s.heap H locs) (hA : ∀ q, s.heap.size ≤ q → va_A W0 s.heap.size q) (hp : ws.Perm (wc ++ wr)) (hq : ws.Perm W0)
    (ht : ∀ x ∈ c.exceptionTable.toList, False) (hlocks : meth.locks = false) (hc : cells + mc ≤ mc') (hs : slots + ms ≤ ms') :
    W p l e R s m args below meth c H locs cells slots (vx_MQ below Qc (vh_X D E W0 s.heap.size) args s mc' ms' (va_A W0 s.heap.size)) (F0 m pc ls st0) := by
  have hP' := vp_perm hP hp
  have hD' := vd_perm hp hD
  have hF := vj_free hD' hS hA
  have hDc : va_D (va_A wc H.size) wc := ((vd_app.mp hD').1.weaken (fun _ _ _ _ => trivial) : va_D (fun _ => True) wc).self (sz := H.size)
  refine vx_callv hr hS (fun q _ h => hF q h) hF (fun q _ h => hF q h) (fun E9 ce q9 u t H1 locs1 ht1 hvm _ hB hz hk hS1 hce hcv hcl => ?_) (fun u t H1 locs1 _ _ hpost => hpost.elim)
  obtain ⟨rfl, hP1⟩ := hB
  rw [ht1] at hP1
  obtain ⟨a1, -⟩ := vj_join hP' hD' hk hF hP1 hDc
  exact vx_out (fun x hx => (ht x hx).elim) hlocks hce hcv hcl (fun t' ht' hal => ⟨(), trivial, ⟨rfl, by rw [ht']; exact vp_perm a1 (hp.symm.trans hq)⟩, hS1.F ht'⟩) (fun z hz => hS1.2.2 z hz) hc hs
end VHT
