/-! p20: calls from the law -/
theorem nI_n0 {n : Nat} (h : 0 < n) (hn : n < 2 ^ 31) : ¬ nI n = 0 := fun z => by
  have := nI_inj hn (by omega) (show nI n = nI 0 from z)
  omega
theorem CI_vo {cy : Nat → ClassId} {e0 vo n : Nat} {μ : Nat → Nat → Int32} {w : va_W} (h : CI cy e0 vo n μ w) : ∃ (k0 : Nat) (fs : List Value), w[k0]? = some (vo, .inr (5, fs)) := by
  obtain ⟨sw, hm, nt, nw, np, nc, χ, sa, nm, nd, nca, NL, nka, nκ, nζ, nα, nau, nkd, nna, nth, nwe, nso, α, fk, fp, fa, ft, g, h, κ, ζ, L, P, lI, pI, dl, δ, e, q⟩ := h
  obtain ⟨k0, hk0⟩ := List.mem_iff_getElem?.mp (e.mem_iff.mpr (show ((vo, .inr (5, [.ref sw, .ref hm, .ref nt, .ref nw, .int (nI np), .int (nI nc)])) : Nat × va_E) ∈ CW cy vo sw hm nt nw np nc χ sa nm nd nca NL nka nκ nζ nα nau nkd nna nth nwe nso α fk fp fa ft g h κ ζ L P dl δ from List.mem_cons_self))
  exact ⟨k0, _, hk0⟩
theorem vQ_pS {D : va_G} {cy : Nat → ClassId} {e0 mi : Nat} {av : List Value} {U w : va_W} {A0 : Nat → Prop} {s : State} {H : Heap} {locs : List Loc} (hE : vg_E D cy s) (hF : vh_F mi s) (hZ : vh_Z cy e0 A0 s s.heap) (hS : va_S A0 s.heap H locs) (hA : ∀ q, s.heap.size ≤ q → A0 q) (hP : va_P D vwCl (wJ U w) H) (hD : va_D A0 (wJ U w)) : PreS s H (vh_P D cy e0 mi av H.size w) av :=
  vh_P.preS hE hF hZ hS (vj_free (vd_perm List.perm_append_comm hD) hS hA) (vp_app.mp (vp_perm hP List.perm_append_comm)).1 (vd_app.mp (vd_perm List.perm_append_comm hD)).1
theorem vQ_pV {D : va_G} {cy : Nat → ClassId} {e0 mi vo n : Nat} {μ : Nat → Nat → Int32} {As : List Value} {U w : va_W} {A0 : Nat → Prop} {s : State} {H : Heap} {locs : List Loc} (hI : CI cy e0 vo n μ w) (hE : vg_E D cy s) (hF : vh_F mi s) (hZ : vh_Z cy e0 A0 s s.heap) (hS : va_S A0 s.heap H locs) (hA : ∀ q, s.heap.size ≤ q → A0 q) (hP : va_P D vwCl (wJ U w) H) (hD : va_D A0 (wJ U w)) : PreV s H RX4 vo (vh_P D cy e0 mi (.ref vo :: As) H.size w) As := by
  obtain ⟨k0, fs, hk0⟩ := CI_vo hI
  exact vh_P.preV hE hF hZ hS (vj_free (vd_perm List.perm_append_comm hD) hS hA) (vp_app.mp (vp_perm hP List.perm_append_comm)).1 k0 hk0 rfl (vp_app.mp (vp_perm hP List.perm_append_comm)).1 (vd_app.mp (vd_perm List.perm_append_comm hD)).1
section VQ
variable {p : Program} {l : Launch} {e : Env} {R : Room} {s : State} {m : MethodId} {args : Array Value} {below : List Frame} {meth : Method} {c : Code} {H : Heap} {locs : List Loc} {cells slots : Nat} {Q : State → Prop}
variable {pc : Nat} {ls : Array Slot} {rest st0 : List Value} {D : va_G} {A0 : Nat → Prop} {H0 : Heap} {ar : Array Value} {mc ms : Nat}
theorem vQ_i {S : Type} {post : Int32 → S → Prop} {W' : S → va_W} {U w : va_W} (hr : va_Run p l e R s m args below meth c H locs cells slots mc ms (F0 m pc ls st0) rest (vg_Qi D H.size w post W' ar) (va_A w H.size)) (hP : va_P D vwCl (wJ U w) H) (hD : va_D A0 (wJ U w)) (hS : va_S A0 H0 H locs) (hA : ∀ q, H0.size ≤ q → A0 q)
    (kk : ∀ (r : Int32) (u : S) (H1 : Heap) (locs1 : List Loc), post r u → va_P D vwCl (wJ U (W' u)) H1 → va_D A0 (wJ U (W' u)) → va_S A0 H0 H1 locs1 → W p l e R s m args below meth c H1 locs1 (cells + mc) (slots + ms) Q (F0 m (pc + 3) ls (.int r :: rest))) : W p l e R s m args below meth c H locs cells slots Q (F0 m pc ls st0) :=
  vj_calli hr hP hD hS hA List.perm_append_comm (fun r u H1 l1 h a b d => kk r u H1 l1 h (vp_perm a List.perm_append_comm) (vd_perm List.perm_append_comm b) d)
theorem vQ_r {S : Type} {post : Int32 → S → Prop} {W' : S → va_W} {U w : va_W} (hr : va_Run p l e R s m args below meth c H locs cells slots 0 0 (F0 m pc ls st0) rest (vg_Qi D H.size w post W' ar) (va_A w H.size)) (hP : va_P D vwCl (wJ U w) H) (hD : va_D A0 (wJ U w)) (hS : va_S A0 H0 H locs) (hA : ∀ q, H0.size ≤ q → A0 q)
    (kk : ∀ (r : Int32) (u : S) (H1 : Heap) (locs1 : List Loc), post r u → va_P D vwCl (wJ U (W' u)) H1 → va_D A0 (wJ U (W' u)) → va_S A0 H0 H1 locs1 → W p l e R s m args below meth c H1 locs1 cells slots Q (F0 m (pc + 3) ls (.int r :: rest))) : W p l e R s m args below meth c H locs cells slots Q (F0 m pc ls st0) := vQ_i hr hP hD hS hA kk
theorem vQ_v {S : Type} {post : S → Prop} {W' : S → va_W} {U w : va_W} (hr : va_Run p l e R s m args below meth c H locs cells slots mc ms (F0 m pc ls st0) rest (vg_Qv D H.size w post W' ar) (va_A w H.size)) (hP : va_P D vwCl (wJ U w) H) (hD : va_D A0 (wJ U w)) (hS : va_S A0 H0 H locs) (hA : ∀ q, H0.size ≤ q → A0 q)
    (kk : ∀ (u : S) (H1 : Heap) (locs1 : List Loc), post u → va_P D vwCl (wJ U (W' u)) H1 → va_D A0 (wJ U (W' u)) → va_S A0 H0 H1 locs1 → W p l e R s m args below meth c H1 locs1 (cells + mc) (slots + ms) Q (F0 m (pc + 3) ls rest)) : W p l e R s m args below meth c H locs cells slots Q (F0 m pc ls st0) :=
  vj_callv hr hP hD hS hA List.perm_append_comm (fun u H1 l1 h a b d => kk u H1 l1 h (vp_perm a List.perm_append_comm) (vd_perm List.perm_append_comm b) d)
end VQ
/-! the script's ints -/
def vd_P (b L : Nat) (xs : Nat → Int32) (av : List Value) (sz : Nat) : Array Value → State → Prop := va_Pc av (fun U => U.heap.size = sz ∧ va_X b L xs U U.heap ∧ b < sz)
theorem vd_P.blind {b L : Nat} {xs : Nat → Int32} {av : List Value} {sz : Nat} : FrameBlind (vd_P b L xs av sz) := fun a U g mk q => by
  obtain ⟨q0, q1, q2, q3⟩ := q
  exact ⟨q0, q1, q2.moved (U := U.calling g mk a) (Vm.Alike.refl U.vm), q3⟩
theorem vd_P.preS {b L : Nat} {xs : Nat → Int32} {av : List Value} {A0 : Nat → Prop} {s : State} {H : Heap} {locs : List Loc} (hX : va_X b L xs s s.heap) (hbl : b < s.heap.size) (hbA : ¬ A0 b) (hS : va_S A0 s.heap H locs) : PreS s H (vd_P b L xs av H.size) av := ⟨vd_P.blind, fun U hU hW => ⟨rfl, by rw [hU], by rw [hU]; exact (hX.kept (hS.2.1 b hbl hbA)).moved hW.alike, Nat.lt_of_lt_of_le hbl hS.1⟩⟩
theorem ush_bv (x : Int32) : (x.toUInt32 >>> ((1 : Int32).toUInt32 &&& Int32.toUInt32 31)).toInt32.toBitVec = x.toBitVec >>> 1 := rfl
theorem ush_n (x : Int32) : ∃ j : Nat, j < 2 ^ 31 ∧ (x.toUInt32 >>> ((nI 1).toUInt32 &&& Int32.toUInt32 31)).toInt32 = nI j := by
  refine nI_of (fun z => ?_)
  rw [Int32.lt_iff_toInt_lt, show (0 : Int32).toInt = 0 from rfl] at z
  have e : (x.toUInt32 >>> ((nI 1).toUInt32 &&& Int32.toUInt32 31)).toInt32.toInt = (x.toBitVec >>> 1).toInt := congrArg BitVec.toInt (ush_bv x)
  rw [e, BitVec.toInt_eq_toNat_cond, BitVec.toNat_ushiftRight, Nat.shiftRight_eq_div_pow] at z
  have := x.toBitVec.isLt
  split at z <;> omega
