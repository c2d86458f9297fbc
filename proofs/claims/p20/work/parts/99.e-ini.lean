/-! the village and the reference at their start -/
theorem RR_ini (χ nau fk fp fa : Nat → Nat) (nkd nna nth nwe nso ft : Nat → Int32) (hχ : ∀ j, j < 10 → χ j = 0) : RR 0 0 0 χ nau nkd nna nth nwe nso fk fp fa ft (fun _ _ _ => 0) (fun _ _ _ => 0) (fun _ => []) (fun _ => []) (fun _ => 0) (fun _ _ => 0) (fun _ _ => 0) 0 := by
  have z : ∀ n : Nat, 0 < n → n ≤ 2 ^ 31 → isN (0 : Int32) n := fun n h h2 => isN_nI (k := 0) h h2
  have t0 : tn (0 : Int32) = 0 := tn_nI (k := 0) (by omega)
  have f : ∀ q : Nat, q < 32 → kHas (0 : Int32) q = false := fun q h => kHas_0 h
  refine ⟨⟨⟨rfl, by omega⟩, fun j hj => ⟨by rw [hχ j hj] <;> rfl, by rw [hχ j hj]; omega⟩, ⟨rfl, by omega⟩, rfl, by omega⟩, ⟨z 11 (by omega) (by omega), fun j _ => z 4 (by omega) (by omega), fun j _ => z 10 (by omega) (by omega), fun j _ => Or.inr (z 50 (by omega) (by omega)), fun j _ => ⟨z 11 (by omega) (by omega), z 10 (by omega) (by omega), z 50 (by omega) (by omega), fun _ => by show tn (0 : Int32) < 10; rw [t0]; omega⟩⟩, fun a ha => absurd ha (Nat.not_lt_zero _), fun a ha => absurd ha (Nat.not_lt_zero _), fun a ha => absurd ha (Nat.not_lt_zero _), ⟨fun s a _ ha => absurd ha (Nat.not_lt_zero _), fun s j _ _ _ => rfl, fun a b ha => absurd ha (Nat.not_lt_zero _)⟩, fun i hi => ⟨⟨⟨fun p q _ hq => by rw [f q (by omega)] <;> rfl, fun p q _ _ hq => f q hq⟩, ⟨fun p q _ hq => by rw [f q (by omega)] <;> rfl, fun p q _ _ hq => f q hq⟩, ⟨fun p q _ hq => by rw [f q (by omega)] <;> rfl, fun p q _ _ hq => f q hq⟩, fun p q _ hq => ?_⟩, ⟨fun n hn => ?_, fun n hn => ?_, fun p n _ hn => ?_, fun n _ hn => ⟨kHsL_0 hn, kHsL_0 hn⟩⟩, fun a b _ _ => ⟨fun z => absurd rfl z, fun z => z.elim (fun z => absurd rfl z) (fun z => absurd rfl z)⟩, ⟨fun _ _ => rfl, fun _ _ _ => rfl, List.nodup_nil, fun x => ⟨fun h => absurd h List.not_mem_nil, fun h => absurd h.1 (Nat.not_lt_zero _)⟩⟩, kEq_rf _, ⟨fun _ _ => rfl, rfl, rfl⟩⟩, ⟨fun i _ => ⟨rfl, fun x a h => by simp at h⟩, fun i _ => ⟨rfl, Nat.le_refl _, Nat.le_refl _⟩, fun j _ => z 600 (by omega) (by omega)⟩⟩
  · rw [f q (by omega)]
    have h : ¬ (0 : Int32) = nI (q + 1) := by
      intro h
      have h9 := congrArg tn h
      rw [t0, tn_nI (by omega)] at h9
      omega
    exact (decide_eq_false h).symm
  · rw [show kLive (fun _ _ => (0 : Int64)) = 0 from by decide +kernel, kHsL_0 (by omega)] <;> rfl
  · rw [kHsL_0 (by omega)] <;> rfl
  · rw [kHsL_0 (by omega)] <;> rfl
theorem CI_ini {cy : Nat → ClassId} {e0 vo sw hm nt nw : Nat} {χ sa : Nat → Nat} {nka : Nat → Nat} {g : Nat → Nat → Nat} {w : va_W} (hχ : ∀ j, j < 10 → χ j = 0) (hw : w.Perm (wJ (uSV cy sw sa) (wJ (uVP vo sw hm nt nw 0 0) (wJ (uHM cy hm χ) (wJ (uLO nt 0 e0 ([] : List Nat)) (wJ (Kw cy nw nka (fun _ _ => 0) (fun _ _ => 0)) (fam4 (Sv cy sa g (fun _ => hIni e0) (fun _ _ _ => 0) (fun _ _ _ => 0) (fun _ => []) (fun _ => []) (fun _ => 0) (fun _ _ => 0))))))))) : CI cy e0 vo 0 (fun _ _ => 0) w := by
  have e2 : ∀ c : Nat → Nat × va_E, pool 0 c = [] := fun _ => rfl
  refine ⟨sw, hm, nt, nw, 0, 0, χ, sa, 0, e0, 0, [], nka, fun _ _ => 0, fun _ _ => 0, fun _ => 0, fun _ => 0, fun _ => 0, fun _ => 0, fun _ => 0, fun _ => 0, fun _ => 0, fun _ => 0, fun _ => 0, fun _ => 0, fun _ => 0, fun _ => 0, g, fun _ => hIni e0, fun _ _ _ => 0, fun _ _ _ => 0, fun _ => [], fun _ => [], fun _ => [], fun _ => [], fun _ => 0, fun _ _ => 0, hw.trans ?_, ⟨fun i _ => ⟨Or.inl ⟨rfl, rfl⟩, Or.inl ⟨rfl, rfl⟩⟩, fun i _ => ⟨fun y hy => absurd hy List.not_mem_nil, fun y hy => absurd hy List.not_mem_nil⟩, Or.inl ⟨rfl, rfl⟩, fun j hj => absurd hj (Nat.not_lt_zero _), fun y hy => absurd hy List.not_mem_nil, fun i _ => ⟨rfl, rfl⟩⟩, RR_ini χ _ _ _ _ _ _ _ _ _ _ hχ, fun j => Or.inl rfl, ⟨fun j => lo4_0, fun j => lo4_0⟩, fun i _ x a hx => absurd hx (Nat.not_lt_zero _), Nat.le_refl _⟩
  unfold CW
  rw [List.length_nil, e2, e2, La_nil]
  exact vp_pc (fun n9 hn9 h90 => by simp only [wJ, hn9, h90, Nat.add_zero, Nat.zero_add] <;> ac_rfl)
