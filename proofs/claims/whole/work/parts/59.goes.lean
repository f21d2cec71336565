/-! the model's days -/
/-- nothing more happens -/
theorem settled {I : IV} {Mk : Nat → Bool} {d : Nat} (hS : ∀ t, (preT I Mk d).1 t = false) (hno : ∀ e, d ≤ e → anyB (arrB I Mk e) = false) : ∀ n, (∀ t, (preT I Mk (d + n)).1 t = false) ∧ (preT I Mk (d + n)).2.2 = (preT I Mk d).2.2
  | 0 => ⟨hS, rfl⟩
  | n + 1 => by
    obtain ⟨h1, h2⟩ := settled hS hno n
    have ea : arrS I Mk (d + n) (preT I Mk (d + n)) = preT I Mk (d + n) := by unfold arrS; rw [hno (d + n) (by omega), if_neg (by decide)]
    show (∀ t, (preT I Mk (d + n + 1)).1 t = false) ∧ (preT I Mk (d + n + 1)).2.2 = (preT I Mk d).2.2
    rw [preT_s, ea]
    generalize preT I Mk (d + n) = x at h1 h2
    obtain ⟨S, s, v, sl⟩ := x
    have eS : S = fun _ => false := funext h1
    subst eS
    rw [← h2]
    unfold sailS vinS
    show (∀ t, (if s + iH I ≤ d + n + 1 ∧ (d + n + 1) % iB I = 0 then _ else _ : RV).1 t = false) ∧ (if s + iH I ≤ d + n + 1 ∧ (d + n + 1) % iB I = 0 then _ else _ : RV).2.2 = (v, sl)
    rw [vin_none, Nat.add_zero]
    by_cases e : s + iH I ≤ d + n + 1 ∧ (d + n + 1) % iB I = 0
    · rw [if_pos e]
      exact ⟨fun _ => rfl, rfl⟩
    · rw [if_neg e]
      exact ⟨fun _ => rfl, rfl⟩
theorem ct6_drop_k : ∀ (b0 b1 b2 b3 b4 b5 : Bool) (t : Fin 6), bf b0 b1 b2 b3 b4 b5 t.val = true → ct6 (bf b0 b1 b2 b3 b4 b5) = ct6 (fun j => bf b0 b1 b2 b3 b4 b5 j && !decide (j = t.val)) + 1 := by decide +kernel
theorem ct6_drop (b : Nat → Bool) {t : Nat} (ht : t < 6) (h : b t = true) : ct6 b = ct6 (fun j => b j && !decide (j = t)) + 1 := by
  have e := ct6_drop_k (b 0) (b 1) (b 2) (b 3) (b 4) (b 5) ⟨t, ht⟩ (by rw [bf_at b ht]; exact h)
  rw [← ct6_f] at e
  rw [e]
  exact congrArg (· + 1) (ct6_c (fun j hj => by rw [bf_at b hj]))
/-- the model's memory of a plan: who is there, their days, who has sailed and when -/
def GS (τ : Mem) (T : Nat) (p : Nat → Nat) (L : Nat → Bool) (D : Nat → Nat) (Z : Nat → Bool) (Sl : Nat → Nat) : Prop := ∀ t, t < T → mA τ 0 31 t = (if L t = true then nI (p t) else -9) ∧ (L t = true → mA τ 0 32 t = nI (D t)) ∧ mA τ 0 33 t = (if Z t = true then nI (Sl t) else -9)
theorem GS.c {τ : Mem} {T : Nat} {p : Nat → Nat} {L L' : Nat → Bool} {D D' : Nat → Nat} {Z Z' : Nat → Bool} {Sl Sl' : Nat → Nat} (h : GS τ T p L D Z Sl) (h1 : ∀ t, t < T → L' t = L t) (h2 : ∀ t, t < T → L t = true → D' t = D t) (h3 : ∀ t, t < T → Z' t = Z t) (h4 : ∀ t, t < T → Z t = true → Sl' t = Sl t) : GS τ T p L' D' Z' Sl' := fun t ht => by
  obtain ⟨a1, a2, a3⟩ := h t ht
  refine ⟨by rw [h1 t ht]; exact a1, fun hl => ?_, ?_⟩
  · rw [h1 t ht] at hl
    rw [h2 t ht hl]; exact a2 hl
  · rw [h3 t ht, a3]
    cases e : Z t
    · rfl
    · rw [if_pos rfl, if_pos rfl, h4 t ht e]
