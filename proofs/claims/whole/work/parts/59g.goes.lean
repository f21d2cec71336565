/-! the model's run of a plan, whole -/
theorem ns_T {T : Nat} (hT : T ≤ 6) : ct6 (nsB T (fun _ => false)) = T := by
  have e : T = 0 ∨ T = 1 ∨ T = 2 ∨ T = 3 ∨ T = 4 ∨ T = 5 ∨ T = 6 := by omega
  rcases e with rfl | rfl | rfl | rfl | rfl | rfl | rfl <;> decide
theorem M_goes {A : AS} (ok : AOK A) {p : Nat → Nat} (hp : ∀ t, t < iT (aI A) → p t < iR (aI A)) {τ : Mem} (hM : MS τ A) (h30 : ∀ t, t < iT (aI A) → mA τ 0 30 t = nI (p t)) : ∃ τ', fX6_goes τ 0 = some (nI (sumR (fun r => vT (aI A) (mkR (iT (aI A)) p r)) 0 (iR (aI A))), τ') ∧ (∀ t, t < iT (aI A) → mA τ' 0 33 t = nI (sdT (aI A) (mkR (iT (aI A)) p (p t)) t)) ∧ (∀ t, t < iT (aI A) → mA τ' 0 30 t = nI (p t)) ∧ MS τ' A := by
  have hT := ok.1.2.2.2.1
  have hR := ok.1.2.1
  have hp3 : ∀ t, t < iT (aI A) → p t < 3 := fun t ht => by have := hp t ht; omega
  obtain ⟨m, hm⟩ : ∃ m, FU = m + 7 := ⟨993, rfl⟩
  have init : ∃ τ0, fX6_goes τ 0 = fX6_goes_46 0 FU τ0 (nI (iT (aI A))) 0 0 ∧ GS τ0 (iT (aI A)) p (fun _ => false) (fun _ => 0) (fun _ => false) (fun _ => 0) ∧ sameX (fun _ k => k = 31 ∨ k = 32 ∨ k = 33) τ τ0 := by
    refine ⟨sA (sA (sA (sA (sA (sA (sA (sA (sA (sA (sA (sA (sA (sA (sA (sA (sA (sA τ 0 31 0 (-nI 9)) 0 32 0 (nI 0)) 0 33 0 (-nI 9)) 0 31 1 (-nI 9)) 0 32 1 (nI 0)) 0 33 1 (-nI 9)) 0 31 2 (-nI 9)) 0 32 2 (nI 0)) 0 33 2 (-nI 9)) 0 31 3 (-nI 9)) 0 32 3 (nI 0)) 0 33 3 (-nI 9)) 0 31 4 (-nI 9)) 0 32 4 (nI 0)) 0 33 4 (-nI 9)) 0 31 5 (-nI 9)) 0 32 5 (nI 0)) 0 33 5 (-nI 9), ?_, fun t ht => ?_, by repeat (first | exact sameX.rf | refine sameX.sI ?_ (by first | rfl | exact Or.inl rfl | exact Or.inr rfl | trivial | decide | omega | simp) _ | refine sameX.sA ?_ (by first | rfl | exact Or.inl rfl | exact Or.inr rfl | trivial | decide | omega | simp) _ _ | refine sameX.sL ?_ (by first | rfl | exact Or.inl rfl | exact Or.inr rfl | trivial | decide | omega | simp) _ | refine sameX.sP ?_ (by first | rfl | exact Or.inl rfl | exact Or.inr rfl | trivial | decide | omega | simp) _ | refine sameX.sB ?_ (by first | rfl | exact Or.inl rfl | exact Or.inr rfl | trivial | decide | omega | simp) _ _)⟩
    · have h2 : fX6_goes_2 0 (m + 7) τ (nI 0) = fX6_goes_46 0 FU (sA (sA (sA (sA (sA (sA (sA (sA (sA (sA (sA (sA (sA (sA (sA (sA (sA (sA τ 0 31 0 (-nI 9)) 0 32 0 (nI 0)) 0 33 0 (-nI 9)) 0 31 1 (-nI 9)) 0 32 1 (nI 0)) 0 33 1 (-nI 9)) 0 31 2 (-nI 9)) 0 32 2 (nI 0)) 0 33 2 (-nI 9)) 0 31 3 (-nI 9)) 0 32 3 (nI 0)) 0 33 3 (-nI 9)) 0 31 4 (-nI 9)) 0 32 4 (nI 0)) 0 33 4 (-nI 9)) 0 31 5 (-nI 9)) 0 32 5 (nI 0)) 0 33 5 (-nI 9)) (nI (iT (aI A))) (nI 0) (nI 0) := by
        simp (disch := omega) only [fX6_goes_2, stp_s, bd_s, bd2_s, gd_t, gd_in, clampN, fa_lit, ofN, nI_add, pk_mul, leN, ltN, eqN, eqNg, gNeq, gNlt, gNle, ltNg, leNg, gg, mI_sI, mI_sL, mI_sP, mI_sA, mI_sB, mL_sI, mL_sL, mL_sP, mL_sA, mL_sB, mP_sI, mP_sL, mP_sP, mP_sA, mP_sB, mA_sI, mA_sL, mA_sP, mA_sAg, mA_sB, mB_sI, mB_sL, mB_sP, mB_sA, mB_sBg, mE_sI, mE_sL, mE_sP, mE_sA, mE_sB, Nat.reduceEqDiff, Nat.reduceAdd, Nat.reduceMul, Nat.reduceSub, Nat.reduceLT, Nat.reduceLeDiff, Nat.reduceDiv, Nat.reduceMod, Nat.reduceBEq, and_true, true_and, and_false, false_and, and_self, ite_true, ite_false, if_true, if_false, reduceIte, eq_self, not_true, not_false_eq_true, Bool.true_and, Bool.and_true, Bool.false_and, Bool.and_false, Bool.or_true, Bool.true_or, Bool.or_false, Bool.false_or, Bool.not_true, Bool.not_false, reduceCtorEq, upd_e, Nat.add_eq_zero_iff, Nat.add_right_cancel_iff, Nat.add_left_cancel_iff, decide_true, decide_false, Bool.false_eq_true, decide_eq_true_eq, hM.1.2.2.2.1]
      rw [← hm] at h2
      exact h2
    · have e : t = 0 ∨ t = 1 ∨ t = 2 ∨ t = 3 ∨ t = 4 ∨ t = 5 := by omega
      refine ⟨?_, fun h => absurd h (by decide), ?_⟩ <;> simp only [mI_sI, mI_sL, mI_sP, mI_sA, mI_sB, mL_sI, mL_sL, mL_sP, mL_sA, mL_sB, mP_sI, mP_sL, mP_sP, mP_sA, mP_sB, mA_sI, mA_sL, mA_sP, mA_sAg, mA_sB, mB_sI, mB_sL, mB_sP, mB_sA, mB_sBg, mE_sI, mE_sL, mE_sP, mE_sA, mE_sB, Nat.reduceEqDiff, Nat.reduceAdd, Nat.reduceMul, Nat.reduceSub, Nat.reduceLT, Nat.reduceLeDiff, Nat.reduceDiv, Nat.reduceMod, Nat.reduceBEq, and_true, true_and, and_false, false_and, and_self, ite_true, ite_false, if_true, if_false, reduceIte, eq_self, not_true, not_false_eq_true, Bool.true_and, Bool.and_true, Bool.false_and, Bool.and_false, Bool.or_true, Bool.true_or, Bool.or_false, Bool.false_or, Bool.not_true, Bool.not_false, reduceCtorEq, upd_e, Nat.add_eq_zero_iff, Nat.add_right_cancel_iff, Nat.add_left_cancel_iff, Bool.false_eq_true] <;> rcases e with rfl | rfl | rfl | rfl | rfl | rfl <;> simp only [Nat.reduceEqDiff, Nat.reduceAdd, Nat.reduceMul, Nat.reduceSub, Nat.reduceLT, Nat.reduceLeDiff, Nat.reduceDiv, Nat.reduceMod, Nat.reduceBEq, and_true, true_and, and_false, false_and, and_self, ite_true, ite_false, if_true, if_false, reduceIte, eq_self, not_true, not_false_eq_true, Bool.true_and, Bool.and_true, Bool.false_and, Bool.and_false, Bool.or_true, Bool.true_or, Bool.or_false, Bool.false_or, Bool.not_true, Bool.not_false, reduceCtorEq, upd_e, Nat.add_eq_zero_iff, Nat.add_right_cancel_iff, Nat.add_left_cancel_iff] <;> rfl
  obtain ⟨τ0, e0, G0, s0⟩ := init
  have hI0 : IMo τ0 (aI A) := hM.1.keep s0 (fun k hk => by omega)
  have h300 : ∀ t, t < iT (aI A) → mA τ0 0 30 t = nI (p t) := fun t ht => by rw [(s0 0 30 (by omega)).2.2.2.1]; exact h30 t ht
  have hv0 : gVn (aI A) p 0 = 0 := by
    unfold gVn
    have : ∀ d i, sumR (fun r => (preT (aI A) (mkR (iT (aI A)) p r) 0).2.2.1) i d = 0 := fun d => by
      induction d with
      | zero => intro i; rfl
      | succ d ih => intro i; rw [sumR_s, ih]; rfl
    exact this _ _
  have hz0 : gZ (aI A) p 0 = fun _ => false := funext fun t => by unfold gZ; rw [decide_eq_false (Nat.not_lt_zero _), Bool.false_and]
  by_cases hT0 : iT (aI A) = 0
  · obtain ⟨v1, -⟩ := g_over ok.1 (p := p) (d := 0) (by decide) (by rw [hz0, ns_T hT]; exact hT0)
    rw [hv0] at v1
    refine ⟨τ0, ?_, fun t ht => by omega, fun t ht => by omega, hM.scratch (s0.mono (fun o k h => by omega))⟩
    rw [e0, ← v1, hT0, hm, fX6_goes_46.eq_2, if_pos (show nI 0 ≤ 0 by decide)]
    rfl
  · have hx0 : ¬ nI (iT (aI A)) ≤ 0 := by rw [l0, leN (by omega) (by omega)]; omega
    have zz : tZ (aI A) (fun _ => false) (fun _ => 0) (fun _ => false) 0 0 = fun _ => false := funext fun t => if_neg (Nat.not_lt_zero t)
    obtain ⟨τ1, e1, G1, s1⟩ := M_g53 ok hp3 (L := fun _ => false) (D := fun _ => 0) (Z := fun _ => false) (Sl := fun _ => 0) (fun _ _ => Nat.zero_le _) (fun _ _ h => absurd h (by decide)) (d := 0) (by decide) (fX6_goes_46 0 (m + 6)) (nI 0) (iT (aI A)) 0 FU τ0 (by omega) (by show _ < 1000; omega) hI0 (G0.c (fun t _ => if_neg (Nat.not_lt_zero t)) (fun t _ _ => if_neg (Nat.not_lt_zero t)) (fun t _ => if_neg (Nat.not_lt_zero t)) (fun t _ _ => if_neg (fun q => absurd q.1 (Nat.not_lt_zero t))))
    have zs : ∀ t, sailB (aI A) (fun _ => false) (fun _ => 0) 0 t = false := fun t => rfl
    have zT : tZ (aI A) (fun _ => false) (fun _ => 0) (fun _ => false) 0 (iT (aI A)) = fun _ => false := funext fun t => by unfold tZ; rw [zs t]; split <;> rfl
    rw [zz, zT, ns_T hT] at e1
    have G2 : GS τ1 (iT (aI A)) p (gL (aI A) p 0) (gDy (aI A) p 0) (gZ (aI A) p 0) (gSl (aI A) p 0) := by
      refine G1.c (fun t _ => ?_) (fun t _ hl => ?_) (fun t _ => ?_) (fun t _ hz => ?_)
      · unfold tL; rw [zs t]; split <;> rfl
      · unfold tL at hl; rw [zs t] at hl; split at hl <;> exact absurd hl (by decide)
      · rw [zT, hz0]
      · rw [zT] at hz; exact absurd hz (by decide)
    obtain ⟨τ2, e2, a2, s2⟩ := M_g46 ok hp 102 0 (m + 6) τ1 (by omega) (by have : 1000 = m + 7 := hm; omega) (hI0.keep s1 (fun k hk => by omega)) (fun t ht => by rw [(s1 0 30 (by omega)).2.2.2.1]; exact h300 t ht) G2
    rw [hz0, ns_T hT, hv0] at e2
    have sAll := s0.tr (s1.tr s2)
    refine ⟨τ2, ?_, a2, fun t ht => by rw [(sAll 0 30 (by omega)).2.2.2.1]; exact h30 t ht, hM.scratch (sAll.mono (fun o k h => by omega))⟩
    rw [e0]
    have e3 : fX6_goes_46 0 FU τ0 (nI (iT (aI A))) 0 0 = fX6_goes_53 (fX6_goes_46 0 (m + 6)) 0 FU τ0 (nI (iT (aI A))) 0 0 0 := by
      have : fX6_goes_46 0 (m + 6 + 1) τ0 (nI (iT (aI A))) 0 0 = fX6_goes_53 (fX6_goes_46 0 (m + 6)) 0 FU τ0 (nI (iT (aI A))) 0 0 0 := by
        rw [fX6_goes_46.eq_2, if_neg hx0]
      rw [← this]
      exact congrArg (fun z => fX6_goes_46 0 z τ0 (nI (iT (aI A))) 0 0) hm
    exact e3.trans (e1.trans e2)
