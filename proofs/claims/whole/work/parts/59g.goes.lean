/-! the model's run of a plan, whole -/
theorem ns_T {T : Nat} (hT : T ≤ 6) : ct6 (nsB T (fun _ => false)) = T := by
  have e : T = 0 ∨ T = 1 ∨ T = 2 ∨ T = 3 ∨ T = 4 ∨ T = 5 ∨ T = 6 := by omega
  rcases e with rfl | rfl | rfl | rfl | rfl | rfl | rfl <;> decide
theorem M_g2 {T : Nat} : ∀ (r i n : Nat) (τ : Mem), i + r = 6 → r < n → mI τ 0 3 = nI T → (∀ t, t < i → mA τ 0 31 t = -9 ∧ mA τ 0 33 t = -9) → ∃ τ0, fX6_goes_2 0 n τ (nI i) = fX6_goes_46 0 FU τ0 (nI T) 0 0 ∧ (∀ t, t < 6 → mA τ0 0 31 t = -9 ∧ mA τ0 0 33 t = -9) ∧ sameX (fun _ k => k = 31 ∨ k = 32 ∨ k = 33) τ τ0 := by
  intro r
  induction r with
  | zero =>
    intro i n τ hi hn h3 ha
    obtain ⟨n, rfl⟩ : ∃ m, n = m + 1 := ⟨n - 1, by omega⟩
    exact ⟨τ, by rw [fX6_goes_2.eq_2, show (6 : Int32) = nI 6 from rfl, iteLE (by omega) (by omega), if_pos (by omega), h3], fun t ht => ha t (by omega), sameX.rf⟩
  | succ r ih =>
    intro i n τ hi hn h3 ha
    obtain ⟨n, rfl⟩ : ∃ m, n = m + 1 := ⟨n - 1, by omega⟩
    obtain ⟨τ0, e1, a1, s1⟩ := ih (i + 1) n (sA (sA (sA τ 0 31 i (-9)) 0 32 i 0) 0 33 i (-9)) (by omega) (by omega) h3 (fun t ht => by
      rw [mA_sAg, if_neg (by decide), mA_sAg, if_neg (by decide), mA_sAg, if_pos ⟨rfl, rfl⟩, mA_sAg, if_pos ⟨rfl, rfl⟩, mA_sAg, if_neg (by decide), mA_sAg, if_neg (by decide), upd_e, upd_e]
      by_cases e : t = i
      · rw [if_pos e, if_pos e]; exact ⟨rfl, rfl⟩
      · rw [if_neg e, if_neg e]; exact ha t (by omega))
    refine ⟨τ0, ?_, a1, sameX.tr (by repeat (first | exact sameX.rf | refine sameX.sI ?_ (by first | rfl | exact Or.inl rfl | exact Or.inr rfl | trivial | decide | omega | simp) _ | refine sameX.sA ?_ (by first | rfl | exact Or.inl rfl | exact Or.inr rfl | trivial | decide | omega | simp) _ _ | refine sameX.sL ?_ (by first | rfl | exact Or.inl rfl | exact Or.inr rfl | trivial | decide | omega | simp) _ | refine sameX.sP ?_ (by first | rfl | exact Or.inl rfl | exact Or.inr rfl | trivial | decide | omega | simp) _ | refine sameX.sB ?_ (by first | rfl | exact Or.inl rfl | exact Or.inr rfl | trivial | decide | omega | simp) _ _)) s1⟩
    rw [fX6_goes_2.eq_2, show (6 : Int32) = nI 6 from rfl, iteLE (by omega) (by omega), if_neg (by omega), gd_in (show i < 6 by omega) (by decide), stp_s, gd_in (show i < 6 by omega) (by decide), stp_s, gd_in (show i < 6 by omega) (by decide), stp_s, clampN (by omega), nI_1]
    exact e1
theorem M_goes {A : AS} (ok : AOK A) {p : Nat → Nat} (hp : ∀ t, t < iT (aI A) → p t < iR (aI A)) {τ : Mem} (hM : MS τ A) (h30 : ∀ t, t < iT (aI A) → mA τ 0 30 t = nI (p t)) : ∃ τ', fX6_goes τ 0 = some (nI (sumR (fun r => vT (aI A) (mkR (iT (aI A)) p r)) 0 (iR (aI A))), τ') ∧ (∀ t, t < iT (aI A) → mA τ' 0 33 t = nI (sdT (aI A) (mkR (iT (aI A)) p (p t)) t)) ∧ (∀ t, t < iT (aI A) → mA τ' 0 30 t = nI (p t)) ∧ MS τ' A := by
  have hT := ok.1.2.2.2.1
  have hR := ok.1.2.1
  have hp3 : ∀ t, t < iT (aI A) → p t < 3 := fun t ht => by have := hp t ht; omega
  obtain ⟨m, hm⟩ : ∃ m, FU = m + 7 := ⟨993, rfl⟩
  obtain ⟨τ0, e0, a0, s0⟩ := M_g2 6 0 FU τ (by omega) (by decide) hM.1.2.2.2.1 (fun t ht => absurd ht (Nat.not_lt_zero t))
  have e0 : fX6_goes τ 0 = fX6_goes_46 0 FU τ0 (nI (iT (aI A))) 0 0 := e0
  have G0 : GS τ0 (iT (aI A)) p (fun _ => false) (fun _ => 0) (fun _ => false) (fun _ => 0) := fun t ht => ⟨by rw [(a0 t (by omega)).1, if_neg (show ¬ false = true by decide)], fun h => absurd (show false = true from h) (by decide), by rw [(a0 t (by omega)).2, if_neg (show ¬ false = true by decide)]⟩
  have hI0 : IMo τ0 (aI A) := hM.1.keep s0 (fun k hk => by omega)
  have h300 : ∀ t, t < iT (aI A) → mA τ0 0 30 t = nI (p t) := fun t ht => by rw [(s0 0 30 (by omega)).2.2.2.1]; exact h30 t ht
  have hv0 : gVn (aI A) p 0 = 0 := by
    unfold gVn
    have : ∀ d i, sumR (fun r => (preT (aI A) (mkR (iT (aI A)) p r) 0).2.2.1) i d = 0 := fun d => by
      induction d with
      | zero => intro i; rfl
      | succ d ih => intro i; rw [sumR_s, ih]; rfl
    exact this _ _
  have hz0 : gZ (aI A) p 0 = fun _ => false := funext fun t => by unfold gZ; rw [decide_eq_false (Nat.not_lt_zero _), Bool.false_and]
  by_cases hT0 : iT (aI A) = 0
  · obtain ⟨v1, -⟩ := g_over ok.1 (p := p) (d := 0) (by decide) (by rw [hz0, ns_T hT]; exact hT0)
    rw [hv0] at v1
    refine ⟨τ0, ?_, fun t ht => by omega, fun t ht => by omega, hM.scratch (s0.mono (fun o k h => by omega))⟩
    rw [e0, ← v1, hT0, hm, fX6_goes_46.eq_2, if_pos (show nI 0 ≤ 0 by decide)]
    rfl
  · have hx0 : ¬ nI (iT (aI A)) ≤ 0 := by rw [l0, leN (by omega) (by omega)]; omega
    have zz : tZ (aI A) (fun _ => false) (fun _ => 0) (fun _ => false) 0 0 = fun _ => false := funext fun t => if_neg (Nat.not_lt_zero t)
    obtain ⟨τ1, e1, G1, s1⟩ := M_g53 ok hp3 (L := fun _ => false) (D := fun _ => 0) (Z := fun _ => false) (Sl := fun _ => 0) (fun _ _ => Nat.zero_le _) (fun _ _ h => absurd h (by decide)) (d := 0) (by decide) (fX6_goes_46 0 (m + 6)) (nI 0) (iT (aI A)) 0 FU τ0 (by omega) (by show _ < 1000; omega) hI0 (G0.c (fun t _ => if_neg (Nat.not_lt_zero t)) (fun t _ _ => if_neg (Nat.not_lt_zero t)) (fun t _ => if_neg (Nat.not_lt_zero t)) (fun t _ _ => if_neg (fun q => absurd q.1 (Nat.not_lt_zero t))))
    have zs : ∀ t, sailB (aI A) (fun _ => false) (fun _ => 0) 0 t = false := fun t => rfl
    have zT : tZ (aI A) (fun _ => false) (fun _ => 0) (fun _ => false) 0 (iT (aI A)) = fun _ => false := funext fun t => by unfold tZ; rw [zs t]; split <;> rfl
    rw [zz, zT, ns_T hT] at e1
    have G2 : GS τ1 (iT (aI A)) p (gL (aI A) p 0) (gDy (aI A) p 0) (gZ (aI A) p 0) (gSl (aI A) p 0) := by
      refine G1.c (fun t _ => ?_) (fun t _ hl => ?_) (fun t _ => ?_) (fun t _ hz => ?_)
      · unfold tL; rw [zs t]; split <;> rfl
      · unfold tL at hl; rw [zs t] at hl; split at hl <;> exact absurd (show false = true from hl) (by decide)
      · rw [zT, hz0]
      · rw [zT] at hz; exact absurd (show false = true from hz) (by decide)
    obtain ⟨τ2, e2, a2, s2⟩ := M_g46 ok hp 102 0 (m + 6) τ1 (by omega) (by have : 1000 = m + 7 := hm; omega) (hI0.keep s1 (fun k hk => by omega)) (fun t ht => by rw [(s1 0 30 (by omega)).2.2.2.1]; exact h300 t ht) G2
    rw [hz0, ns_T hT, hv0] at e2
    have sAll := s0.tr (s1.tr s2)
    refine ⟨τ2, ?_, a2, fun t ht => by rw [(sAll 0 30 (by omega)).2.2.2.1]; exact h30 t ht, hM.scratch (sAll.mono (fun o k h => by omega))⟩
    rw [e0]
    have e3 : fX6_goes_46 0 FU τ0 (nI (iT (aI A))) 0 0 = fX6_goes_53 (fX6_goes_46 0 (m + 6)) 0 FU τ0 (nI (iT (aI A))) 0 0 0 := by
      have : fX6_goes_46 0 (m + 6 + 1) τ0 (nI (iT (aI A))) 0 0 = fX6_goes_53 (fX6_goes_46 0 (m + 6)) 0 FU τ0 (nI (iT (aI A))) 0 0 0 := by
        rw [fX6_goes_46.eq_2, if_neg hx0]
      rw [← this]
      exact congrArg (fun z => fX6_goes_46 0 z τ0 (nI (iT (aI A))) 0 0) hm
    exact e3.trans (e1.trans e2)
