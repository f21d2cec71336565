/-! puts, day, sails -/
def sumR (f : Nat → Nat) : Nat → Nat → Nat
  | _, 0 => 0
  | i, d + 1 => f i + sumR f (i + 1) d
theorem sumR_s (f : Nat → Nat) (i d : Nat) : sumR f i (d + 1) = f i + sumR f (i + 1) d := rfl
theorem sum_ct {p : Nat → Bool} {T : Nat} (hT : T ≤ 6) (h : ∀ t, T ≤ t → t < 6 → p t = false) : sumR (fun t => b2n (p t)) 0 T = ct6 p := by
  have e : T = 0 ∨ T = 1 ∨ T = 2 ∨ T = 3 ∨ T = 4 ∨ T = 5 ∨ T = 6 := by omega
  have z : b2n false = 0 := rfl
  rcases e with rfl | rfl | rfl | rfl | rfl | rfl | rfl <;> simp only [sumR, ct6, Nat.reduceAdd, Nat.zero_add] <;> (try rw [h 0 (by decide) (by decide)]) <;> (try rw [h 1 (by decide) (by decide)]) <;> (try rw [h 2 (by decide) (by decide)]) <;> (try rw [h 3 (by decide) (by decide)]) <;> (try rw [h 4 (by decide) (by decide)]) <;> (try rw [h 5 (by decide) (by decide)]) <;> (try rw [z]) <;> omega
theorem sumR_c {f g : Nat → Nat} : ∀ {d i : Nat}, (∀ t, i ≤ t → t < i + d → f t = g t) → sumR f i d = sumR g i d
  | 0, _, _ => rfl
  | d + 1, i, h => by
    unfold sumR
    rw [h i (Nat.le_refl _) (by omega), sumR_c (fun t h1 h2 => h t (by omega) (by omega))]
theorem sumR_le {f : Nat → Nat} {c : Nat} : ∀ {d i : Nat}, (∀ t, i ≤ t → t < i + d → f t ≤ c) → sumR f i d ≤ d * c
  | 0, _, _ => Nat.zero_le _
  | d + 1, i, h => by
    unfold sumR
    have h1 := h i (Nat.le_refl _) (by omega)
    have h2 := sumR_le (d := d) (i := i + 1) (fun t h1 h2 => h t (by omega) (by omega))
    rw [Nat.succ_mul]; omega
def putN (N : NV) (t r : Nat) : NV := (vD N, vV N, fun j => if j = t then r else vR N j, fun k => if k = r then 0 else vY N k, vG N, vN N, vW N)
theorem putN_ok {N : NV} {T R t r : Nat} (ok : NOK N T R) (ht : t < T) (hr : r < R) (hR : R ≤ 3) : NOK (putN N t r) T R := by
  obtain ⟨h1, h2, h3, h4, h5, h6⟩ := ok
  refine ⟨h1, fun j hj => ?_, fun j hj => ?_, fun k hk => ?_, h5, h6⟩
  · show (if j = t then r else vR N j) ≤ 3 ∧ ((if j = t then r else vR N j) < 3 → (if j = t then r else vR N j) < R)
    split
    · omega
    · exact h2 j hj
  · show (if j = t then r else vR N j) = 3 ∧ vG N j = false
    rw [if_neg (by omega)]
    exact h3 j hj
  · show (if k = r then 0 else vY N k) ≤ vD N
    split
    · omega
    · exact h4 k hk
theorem M_puts82 {T r : Nat} (hT : T ≤ 6) (hr : r < 3) : ∀ (d i n acc : Nat) (τ : Mem), mI τ 0 3 = nI T → i + d = T → d < n → ∃ τ', fX6_puts_82 0 n τ (nI r) (nI acc) (nI i) = some (nI (acc + sumR (fun t => b2n (decide (mA τ 0 7 (2 + t) = nI r))) i d), τ') ∧ (∀ k, mA τ' 0 7 k = if 8 + i ≤ k ∧ k < 8 + T ∧ mA τ 0 7 (k - 6) = nI r then 0 else mA τ 0 7 k) ∧ sameX (fun _ k => k = 7) τ τ' := by
  intro d
  induction d with
  | zero =>
    intro i n acc τ h3 hi hn
    obtain ⟨n, rfl⟩ : ∃ m, n = m + 1 := ⟨n - 1, by omega⟩
    refine ⟨τ, ?_, fun k => by rw [if_neg (by omega)], sameX.rf⟩
    simp (disch := omega) only [fX6_puts_82, stp_s, bd_s, bd2_s, gd_t, gd_in, clampN, fa_lit, ofN, nI_add, pk_mul, leN, ltN, eqN, eqNg, gNeq, gNlt, gNle, ltNg, leNg, gg, mI_sI, mI_sL, mI_sP, mI_sA, mI_sB, mL_sI, mL_sL, mL_sP, mL_sA, mL_sB, mP_sI, mP_sL, mP_sP, mP_sA, mP_sB, mA_sI, mA_sL, mA_sP, mA_sAg, mA_sB, mB_sI, mB_sL, mB_sP, mB_sA, mB_sBg, mE_sI, mE_sL, mE_sP, mE_sA, mE_sB, Nat.reduceEqDiff, Nat.reduceAdd, Nat.reduceMul, Nat.reduceSub, Nat.reduceLT, Nat.reduceLeDiff, Nat.reduceDiv, Nat.reduceMod, Nat.reduceBEq, and_true, true_and, and_false, false_and, and_self, ite_true, ite_false, if_true, if_false, reduceIte, eq_self, not_true, not_false_eq_true, Bool.true_and, Bool.and_true, Bool.false_and, Bool.and_false, Bool.or_true, Bool.true_or, Bool.or_false, Bool.false_or, Bool.not_true, Bool.not_false, reduceCtorEq, upd_e, Nat.add_eq_zero_iff, Nat.add_right_cancel_iff, Nat.add_left_cancel_iff, decide_true, decide_false, Bool.false_eq_true, decide_eq_true_eq, h3, show T ≤ i by omega, sumR, Nat.add_zero]
  | succ d ih =>
    intro i n acc τ h3 hi hn
    obtain ⟨n, rfl⟩ : ∃ m, n = m + 1 := ⟨n - 1, by omega⟩
    by_cases e : mA τ 0 7 (2 + i) = nI r
    · obtain ⟨τ', e1, ha, hs⟩ := ih (i + 1) n (acc + 1) (sA τ 0 7 (8 + i) (nI 0)) (by simp only [mI_sI, mI_sL, mI_sP, mI_sA, mI_sB, mL_sI, mL_sL, mL_sP, mL_sA, mL_sB, mP_sI, mP_sL, mP_sP, mP_sA, mP_sB, mA_sI, mA_sL, mA_sP, mA_sAg, mA_sB, mB_sI, mB_sL, mB_sP, mB_sA, mB_sBg, mE_sI, mE_sL, mE_sP, mE_sA, mE_sB]; exact h3) (by omega) (by omega)
      refine ⟨τ', ?_, fun k => ?_, sameX.tr (by repeat (first | exact sameX.rf | refine sameX.sI ?_ (by first | rfl | exact Or.inl rfl | exact Or.inr rfl | trivial | decide | omega | simp) _ | refine sameX.sA ?_ (by first | rfl | exact Or.inl rfl | exact Or.inr rfl | trivial | decide | omega | simp) _ _ | refine sameX.sL ?_ (by first | rfl | exact Or.inl rfl | exact Or.inr rfl | trivial | decide | omega | simp) _ | refine sameX.sP ?_ (by first | rfl | exact Or.inl rfl | exact Or.inr rfl | trivial | decide | omega | simp) _ | refine sameX.sB ?_ (by first | rfl | exact Or.inl rfl | exact Or.inr rfl | trivial | decide | omega | simp) _ _)) hs⟩
      · simp (disch := omega) only [fX6_puts_82, fX6_puts_109, fX6_puts_139, stp_s, bd_s, bd2_s, gd_t, gd_in, clampN, fa_lit, ofN, nI_add, pk_mul, leN, ltN, eqN, eqNg, gNeq, gNlt, gNle, ltNg, leNg, gg, mI_sI, mI_sL, mI_sP, mI_sA, mI_sB, mL_sI, mL_sL, mL_sP, mL_sA, mL_sB, mP_sI, mP_sL, mP_sP, mP_sA, mP_sB, mA_sI, mA_sL, mA_sP, mA_sAg, mA_sB, mB_sI, mB_sL, mB_sP, mB_sA, mB_sBg, mE_sI, mE_sL, mE_sP, mE_sA, mE_sB, Nat.reduceEqDiff, Nat.reduceAdd, Nat.reduceMul, Nat.reduceSub, Nat.reduceLT, Nat.reduceLeDiff, Nat.reduceDiv, Nat.reduceMod, Nat.reduceBEq, and_true, true_and, and_false, false_and, and_self, ite_true, ite_false, if_true, if_false, reduceIte, eq_self, not_true, not_false_eq_true, Bool.true_and, Bool.and_true, Bool.false_and, Bool.and_false, Bool.or_true, Bool.true_or, Bool.or_false, Bool.false_or, Bool.not_true, Bool.not_false, reduceCtorEq, upd_e, Nat.add_eq_zero_iff, Nat.add_right_cancel_iff, Nat.add_left_cancel_iff, decide_true, decide_false, Bool.false_eq_true, decide_eq_true_eq, h3, e, show ¬ T ≤ i by omega]
        rw [e1, sumR_s _ i d, e, decide_eq_true rfl]
        refine congrArg some (congrArg (fun z => (nI z, τ')) ?_)
        have e2 : sumR (fun t => b2n (decide (mA (sA τ 0 7 (8 + i) (nI 0)) 0 7 (2 + t) = nI r))) (i + 1) d = sumR (fun t => b2n (decide (mA τ 0 7 (2 + t) = nI r))) (i + 1) d := sumR_c (fun t h1 h2 => by simp only [mI_sI, mI_sL, mI_sP, mI_sA, mI_sB, mL_sI, mL_sL, mL_sP, mL_sA, mL_sB, mP_sI, mP_sL, mP_sP, mP_sA, mP_sB, mA_sI, mA_sL, mA_sP, mA_sAg, mA_sB, mB_sI, mB_sL, mB_sP, mB_sA, mB_sBg, mE_sI, mE_sL, mE_sP, mE_sA, mE_sB, Nat.reduceEqDiff, Nat.reduceAdd, Nat.reduceMul, Nat.reduceSub, Nat.reduceLT, Nat.reduceLeDiff, Nat.reduceDiv, Nat.reduceMod, Nat.reduceBEq, and_true, true_and, and_false, false_and, and_self, ite_true, ite_false, if_true, if_false, reduceIte, eq_self, not_true, not_false_eq_true, Bool.true_and, Bool.and_true, Bool.false_and, Bool.and_false, Bool.or_true, Bool.true_or, Bool.or_false, Bool.false_or, Bool.not_true, Bool.not_false, reduceCtorEq, upd_e, Nat.add_eq_zero_iff, Nat.add_right_cancel_iff, Nat.add_left_cancel_iff]; rw [if_neg (by omega)])
        rw [e2]
        show _ = acc + (1 + _)
        omega
      · rw [ha k]
        simp only [mI_sI, mI_sL, mI_sP, mI_sA, mI_sB, mL_sI, mL_sL, mL_sP, mL_sA, mL_sB, mP_sI, mP_sL, mP_sP, mP_sA, mP_sB, mA_sI, mA_sL, mA_sP, mA_sAg, mA_sB, mB_sI, mB_sL, mB_sP, mB_sA, mB_sBg, mE_sI, mE_sL, mE_sP, mE_sA, mE_sB, Nat.reduceEqDiff, Nat.reduceAdd, Nat.reduceMul, Nat.reduceSub, Nat.reduceLT, Nat.reduceLeDiff, Nat.reduceDiv, Nat.reduceMod, Nat.reduceBEq, and_true, true_and, and_false, false_and, and_self, ite_true, ite_false, if_true, if_false, reduceIte, eq_self, not_true, not_false_eq_true, Bool.true_and, Bool.and_true, Bool.false_and, Bool.and_false, Bool.or_true, Bool.true_or, Bool.or_false, Bool.false_or, Bool.not_true, Bool.not_false, reduceCtorEq, upd_e, Nat.add_eq_zero_iff, Nat.add_right_cancel_iff, Nat.add_left_cancel_iff]
        by_cases ek : k = 8 + i
        · subst ek
          have ek2 : 8 + i - 6 = 2 + i := by omega
          rw [if_neg (by omega), if_pos rfl, ek2, if_pos ⟨by omega, by omega, e⟩]
          rfl
        · rw [if_neg ek]
          by_cases ek3 : 8 + (i + 1) ≤ k ∧ k < 8 + T
          · rw [if_neg (show ¬ k - 6 = 8 + i by omega)]
            by_cases e5 : mA τ 0 7 (k - 6) = nI r
            · rw [if_pos ⟨ek3.1, ek3.2, e5⟩, if_pos ⟨by omega, ek3.2, e5⟩]
            · rw [if_neg (fun q => e5 q.2.2), if_neg (fun q => e5 q.2.2)]
          · rw [if_neg (fun q => ek3 ⟨q.1, q.2.1⟩), if_neg (fun q => ek3 ⟨by omega, q.2.1⟩)]
    · obtain ⟨τ', e1, ha, hs⟩ := ih (i + 1) n acc (sA τ 0 7 (8 + i) (mA τ 0 7 (8 + i))) (by simp only [mI_sI, mI_sL, mI_sP, mI_sA, mI_sB, mL_sI, mL_sL, mL_sP, mL_sA, mL_sB, mP_sI, mP_sL, mP_sP, mP_sA, mP_sB, mA_sI, mA_sL, mA_sP, mA_sAg, mA_sB, mB_sI, mB_sL, mB_sP, mB_sA, mB_sBg, mE_sI, mE_sL, mE_sP, mE_sA, mE_sB]; exact h3) (by omega) (by omega)
      refine ⟨τ', ?_, fun k => ?_, sameX.tr (by repeat (first | exact sameX.rf | refine sameX.sI ?_ (by first | rfl | exact Or.inl rfl | exact Or.inr rfl | trivial | decide | omega | simp) _ | refine sameX.sA ?_ (by first | rfl | exact Or.inl rfl | exact Or.inr rfl | trivial | decide | omega | simp) _ _ | refine sameX.sL ?_ (by first | rfl | exact Or.inl rfl | exact Or.inr rfl | trivial | decide | omega | simp) _ | refine sameX.sP ?_ (by first | rfl | exact Or.inl rfl | exact Or.inr rfl | trivial | decide | omega | simp) _ | refine sameX.sB ?_ (by first | rfl | exact Or.inl rfl | exact Or.inr rfl | trivial | decide | omega | simp) _ _)) hs⟩
      · simp (disch := omega) only [fX6_puts_82, fX6_puts_109, fX6_puts_139, stp_s, bd_s, bd2_s, gd_t, gd_in, clampN, fa_lit, ofN, nI_add, pk_mul, leN, ltN, eqN, eqNg, gNeq, gNlt, gNle, ltNg, leNg, gg, mI_sI, mI_sL, mI_sP, mI_sA, mI_sB, mL_sI, mL_sL, mL_sP, mL_sA, mL_sB, mP_sI, mP_sL, mP_sP, mP_sA, mP_sB, mA_sI, mA_sL, mA_sP, mA_sAg, mA_sB, mB_sI, mB_sL, mB_sP, mB_sA, mB_sBg, mE_sI, mE_sL, mE_sP, mE_sA, mE_sB, Nat.reduceEqDiff, Nat.reduceAdd, Nat.reduceMul, Nat.reduceSub, Nat.reduceLT, Nat.reduceLeDiff, Nat.reduceDiv, Nat.reduceMod, Nat.reduceBEq, and_true, true_and, and_false, false_and, and_self, ite_true, ite_false, if_true, if_false, reduceIte, eq_self, not_true, not_false_eq_true, Bool.true_and, Bool.and_true, Bool.false_and, Bool.and_false, Bool.or_true, Bool.true_or, Bool.or_false, Bool.false_or, Bool.not_true, Bool.not_false, reduceCtorEq, upd_e, Nat.add_eq_zero_iff, Nat.add_right_cancel_iff, Nat.add_left_cancel_iff, decide_true, decide_false, Bool.false_eq_true, decide_eq_true_eq, h3, e, show ¬ T ≤ i by omega, Nat.add_zero]
        rw [e1, sumR_s _ i d, decide_eq_false e]
        refine congrArg some (congrArg (fun z => (nI z, τ')) ?_)
        have e2 : sumR (fun t => b2n (decide (mA (sA τ 0 7 (8 + i) (mA τ 0 7 (8 + i))) 0 7 (2 + t) = nI r))) (i + 1) d = sumR (fun t => b2n (decide (mA τ 0 7 (2 + t) = nI r))) (i + 1) d := sumR_c (fun t h1 h2 => by simp only [mI_sI, mI_sL, mI_sP, mI_sA, mI_sB, mL_sI, mL_sL, mL_sP, mL_sA, mL_sB, mP_sI, mP_sL, mP_sP, mP_sA, mP_sB, mA_sI, mA_sL, mA_sP, mA_sAg, mA_sB, mB_sI, mB_sL, mB_sP, mB_sA, mB_sBg, mE_sI, mE_sL, mE_sP, mE_sA, mE_sB, Nat.reduceEqDiff, Nat.reduceAdd, Nat.reduceMul, Nat.reduceSub, Nat.reduceLT, Nat.reduceLeDiff, Nat.reduceDiv, Nat.reduceMod, Nat.reduceBEq, and_true, true_and, and_false, false_and, and_self, ite_true, ite_false, if_true, if_false, reduceIte, eq_self, not_true, not_false_eq_true, Bool.true_and, Bool.and_true, Bool.false_and, Bool.and_false, Bool.or_true, Bool.true_or, Bool.or_false, Bool.false_or, Bool.not_true, Bool.not_false, reduceCtorEq, upd_e, Nat.add_eq_zero_iff, Nat.add_right_cancel_iff, Nat.add_left_cancel_iff]; rw [if_neg (by omega)])
        rw [e2]
        show _ = acc + (0 + _)
        omega
      · rw [ha k]
        simp only [mI_sI, mI_sL, mI_sP, mI_sA, mI_sB, mL_sI, mL_sL, mL_sP, mL_sA, mL_sB, mP_sI, mP_sL, mP_sP, mP_sA, mP_sB, mA_sI, mA_sL, mA_sP, mA_sAg, mA_sB, mB_sI, mB_sL, mB_sP, mB_sA, mB_sBg, mE_sI, mE_sL, mE_sP, mE_sA, mE_sB, Nat.reduceEqDiff, Nat.reduceAdd, Nat.reduceMul, Nat.reduceSub, Nat.reduceLT, Nat.reduceLeDiff, Nat.reduceDiv, Nat.reduceMod, Nat.reduceBEq, and_true, true_and, and_false, false_and, and_self, ite_true, ite_false, if_true, if_false, reduceIte, eq_self, not_true, not_false_eq_true, Bool.true_and, Bool.and_true, Bool.false_and, Bool.and_false, Bool.or_true, Bool.true_or, Bool.or_false, Bool.false_or, Bool.not_true, Bool.not_false, reduceCtorEq, upd_e, Nat.add_eq_zero_iff, Nat.add_right_cancel_iff, Nat.add_left_cancel_iff]
        by_cases ek : k = 8 + i
        · subst ek
          have ek2 : 8 + i - 6 = 2 + i := by omega
          rw [if_neg (by omega), if_pos rfl, ek2, if_neg (fun q => e q.2.2)]
        · rw [if_neg ek]
          by_cases ek3 : 8 + (i + 1) ≤ k ∧ k < 8 + T
          · rw [if_neg (show ¬ k - 6 = 8 + i by omega)]
            by_cases e5 : mA τ 0 7 (k - 6) = nI r
            · rw [if_pos ⟨ek3.1, ek3.2, e5⟩, if_pos ⟨by omega, ek3.2, e5⟩]
            · rw [if_neg (fun q => e5 q.2.2), if_neg (fun q => e5 q.2.2)]
          · rw [if_neg (fun q => ek3 ⟨q.1, q.2.1⟩), if_neg (fun q => ek3 ⟨by omega, q.2.1⟩)]
theorem row_eq {rw r : Nat} (hr : r < 3) : ((if rw < 3 then nI rw else -9) = nI r) = (rw = r) := by
  by_cases e : rw < 3
  · rw [if_pos e, eqN (by omega) (by omega)]
  · rw [if_neg e]
    refine propext ⟨fun q => absurd q.symm (neg9 (by omega)), fun q => absurd q (by omega)⟩
theorem op_puts {σ τ : Mem} (h : Rel σ τ) (x1 : Int32) (x2 : Int32) : ∃ (r : Int32) (σ' : Mem) (τ' : Mem), fX5_puts σ 0 x1 x2 = some (r, σ') ∧ fX6_puts τ 0 x1 x2 = some (r, τ') ∧ Rel σ' τ' := by
  obtain ⟨A, q, q2, ok, hC, hM⟩ := id h
  have hP1 : mP σ 0 1 = q := hC.1.2.2.2.2.1
  have hP3 : mP σ 0 3 = 4 := hC.1.2.1
  have hP4 : mP σ 0 4 = 5 := hC.1.2.2.1
  have hI := hC.2.1
  have hN := hC.2.2.2.1
  have hT := ok.1.2.2.2.1
  have hR := ok.1.2.1
  have hD := ok.2.2.1.1
  have m0 : mA τ 0 7 0 = nI (vD (aN A)) := hM.2.2.1.1
  rcases ix3 x1 (n := iT (aI A)) (by omega) with hx | ⟨t, ht, rfl⟩
  · refine ⟨-1, σ, τ, ?_, ?_, h⟩
    · simp (disch := omega) only [fX5_puts, hP1, C_hasT_no hI hx, stp_s, bd_s, bd2_s, gd_t, gd_in, clampN, fa_lit, ofN, nI_add, pk_mul, leN, ltN, eqN, eqNg, gNeq, gNlt, gNle, ltNg, leNg, gg, mI_sI, mI_sL, mI_sP, mI_sA, mI_sB, mL_sI, mL_sL, mL_sP, mL_sA, mL_sB, mP_sI, mP_sL, mP_sP, mP_sA, mP_sB, mA_sI, mA_sL, mA_sP, mA_sAg, mA_sB, mB_sI, mB_sL, mB_sP, mB_sA, mB_sBg, mE_sI, mE_sL, mE_sP, mE_sA, mE_sB, Nat.reduceEqDiff, Nat.reduceAdd, Nat.reduceMul, Nat.reduceSub, Nat.reduceLT, Nat.reduceLeDiff, Nat.reduceDiv, Nat.reduceMod, Nat.reduceBEq, and_true, true_and, and_false, false_and, and_self, ite_true, ite_false, if_true, if_false, reduceIte, eq_self, not_true, not_false_eq_true, Bool.true_and, Bool.and_true, Bool.false_and, Bool.and_false, Bool.or_true, Bool.true_or, Bool.or_false, Bool.false_or, Bool.not_true, Bool.not_false, reduceCtorEq, upd_e, Nat.add_eq_zero_iff, Nat.add_right_cancel_iff, Nat.add_left_cancel_iff, decide_true, decide_false, Bool.false_eq_true, decide_eq_true_eq]
    · simp (disch := omega) only [fX6_puts, M_isT_no hM.1 ok.1 hx, stp_s, bd_s, bd2_s, gd_t, gd_in, clampN, fa_lit, ofN, nI_add, pk_mul, leN, ltN, eqN, eqNg, gNeq, gNlt, gNle, ltNg, leNg, gg, mI_sI, mI_sL, mI_sP, mI_sA, mI_sB, mL_sI, mL_sL, mL_sP, mL_sA, mL_sB, mP_sI, mP_sL, mP_sP, mP_sA, mP_sB, mA_sI, mA_sL, mA_sP, mA_sAg, mA_sB, mB_sI, mB_sL, mB_sP, mB_sA, mB_sBg, mE_sI, mE_sL, mE_sP, mE_sA, mE_sB, Nat.reduceEqDiff, Nat.reduceAdd, Nat.reduceMul, Nat.reduceSub, Nat.reduceLT, Nat.reduceLeDiff, Nat.reduceDiv, Nat.reduceMod, Nat.reduceBEq, and_true, true_and, and_false, false_and, and_self, ite_true, ite_false, if_true, if_false, reduceIte, eq_self, not_true, not_false_eq_true, Bool.true_and, Bool.and_true, Bool.false_and, Bool.and_false, Bool.or_true, Bool.true_or, Bool.or_false, Bool.false_or, Bool.not_true, Bool.not_false, reduceCtorEq, upd_e, Nat.add_eq_zero_iff, Nat.add_right_cancel_iff, Nat.add_left_cancel_iff, decide_true, decide_false, Bool.false_eq_true, decide_eq_true_eq]
  rcases ix3 x2 (n := iR (aI A)) (by omega) with hx | ⟨r, hr, rfl⟩
  · refine ⟨-1, σ, τ, ?_, ?_, h⟩
    · simp (disch := omega) only [fX5_puts, hP1, C_hasT_yes hI ok.1 ht, C_hasR_no hI hx, stp_s, bd_s, bd2_s, gd_t, gd_in, clampN, fa_lit, ofN, nI_add, pk_mul, leN, ltN, eqN, eqNg, gNeq, gNlt, gNle, ltNg, leNg, gg, mI_sI, mI_sL, mI_sP, mI_sA, mI_sB, mL_sI, mL_sL, mL_sP, mL_sA, mL_sB, mP_sI, mP_sL, mP_sP, mP_sA, mP_sB, mA_sI, mA_sL, mA_sP, mA_sAg, mA_sB, mB_sI, mB_sL, mB_sP, mB_sA, mB_sBg, mE_sI, mE_sL, mE_sP, mE_sA, mE_sB, Nat.reduceEqDiff, Nat.reduceAdd, Nat.reduceMul, Nat.reduceSub, Nat.reduceLT, Nat.reduceLeDiff, Nat.reduceDiv, Nat.reduceMod, Nat.reduceBEq, and_true, true_and, and_false, false_and, and_self, ite_true, ite_false, if_true, if_false, reduceIte, eq_self, not_true, not_false_eq_true, Bool.true_and, Bool.and_true, Bool.false_and, Bool.and_false, Bool.or_true, Bool.true_or, Bool.or_false, Bool.false_or, Bool.not_true, Bool.not_false, reduceCtorEq, upd_e, Nat.add_eq_zero_iff, Nat.add_right_cancel_iff, Nat.add_left_cancel_iff, decide_true, decide_false, Bool.false_eq_true, decide_eq_true_eq]
    · simp (disch := omega) only [fX6_puts, M_isT_yes hM.1 ok.1 ht, M_isR_no hM.1 ok.1 hx, stp_s, bd_s, bd2_s, gd_t, gd_in, clampN, fa_lit, ofN, nI_add, pk_mul, leN, ltN, eqN, eqNg, gNeq, gNlt, gNle, ltNg, leNg, gg, mI_sI, mI_sL, mI_sP, mI_sA, mI_sB, mL_sI, mL_sL, mL_sP, mL_sA, mL_sB, mP_sI, mP_sL, mP_sP, mP_sA, mP_sB, mA_sI, mA_sL, mA_sP, mA_sAg, mA_sB, mB_sI, mB_sL, mB_sP, mB_sA, mB_sBg, mE_sI, mE_sL, mE_sP, mE_sA, mE_sB, Nat.reduceEqDiff, Nat.reduceAdd, Nat.reduceMul, Nat.reduceSub, Nat.reduceLT, Nat.reduceLeDiff, Nat.reduceDiv, Nat.reduceMod, Nat.reduceBEq, and_true, true_and, and_false, false_and, and_self, ite_true, ite_false, if_true, if_false, reduceIte, eq_self, not_true, not_false_eq_true, Bool.true_and, Bool.and_true, Bool.false_and, Bool.and_false, Bool.or_true, Bool.true_or, Bool.or_false, Bool.false_or, Bool.not_true, Bool.not_false, reduceCtorEq, upd_e, Nat.add_eq_zero_iff, Nat.add_right_cancel_iff, Nat.add_left_cancel_iff, decide_true, decide_false, Bool.false_eq_true, decide_eq_true_eq]
  have ht6 : t < 6 := by omega
  have hr3 := (ok.2.2.1.2.1 t ht6).1
  have hc := (ok.1.2.2.2.2.2.1 t ht).1
  have c5 := hI.2.2.2.2.2.1 t ht
  have m4 := hM.1.2.2.2.2.2.1 t ht
  by_cases ec : vD (aN A) < iC (aI A) t
  · refine ⟨-2, σ, τ, ?_, ?_, h⟩
    · simp (disch := omega) only [fX5_puts, hP1, hP3, C_hasT_yes hI ok.1 ht, C_hasR_yes hI ok.1 hr, stp_s, bd_s, bd2_s, gd_t, gd_in, clampN, fa_lit, ofN, nI_add, pk_mul, leN, ltN, eqN, eqNg, gNeq, gNlt, gNle, ltNg, leNg, gg, mI_sI, mI_sL, mI_sP, mI_sA, mI_sB, mL_sI, mL_sL, mL_sP, mL_sA, mL_sB, mP_sI, mP_sL, mP_sP, mP_sA, mP_sB, mA_sI, mA_sL, mA_sP, mA_sAg, mA_sB, mB_sI, mB_sL, mB_sP, mB_sA, mB_sBg, mE_sI, mE_sL, mE_sP, mE_sA, mE_sB, Nat.reduceEqDiff, Nat.reduceAdd, Nat.reduceMul, Nat.reduceSub, Nat.reduceLT, Nat.reduceLeDiff, Nat.reduceDiv, Nat.reduceMod, Nat.reduceBEq, and_true, true_and, and_false, false_and, and_self, ite_true, ite_false, if_true, if_false, reduceIte, eq_self, not_true, not_false_eq_true, Bool.true_and, Bool.and_true, Bool.false_and, Bool.and_false, Bool.or_true, Bool.true_or, Bool.or_false, Bool.false_or, Bool.not_true, Bool.not_false, reduceCtorEq, upd_e, Nat.add_eq_zero_iff, Nat.add_right_cancel_iff, Nat.add_left_cancel_iff, decide_true, decide_false, Bool.false_eq_true, decide_eq_true_eq, hN.1, c5, ec]
    · simp (disch := omega) only [fX6_puts, M_isT_yes hM.1 ok.1 ht, M_isR_yes hM.1 ok.1 hr, stp_s, bd_s, bd2_s, gd_t, gd_in, clampN, fa_lit, ofN, nI_add, pk_mul, leN, ltN, eqN, eqNg, gNeq, gNlt, gNle, ltNg, leNg, gg, mI_sI, mI_sL, mI_sP, mI_sA, mI_sB, mL_sI, mL_sL, mL_sP, mL_sA, mL_sB, mP_sI, mP_sL, mP_sP, mP_sA, mP_sB, mA_sI, mA_sL, mA_sP, mA_sAg, mA_sB, mB_sI, mB_sL, mB_sP, mB_sA, mB_sBg, mE_sI, mE_sL, mE_sP, mE_sA, mE_sB, Nat.reduceEqDiff, Nat.reduceAdd, Nat.reduceMul, Nat.reduceSub, Nat.reduceLT, Nat.reduceLeDiff, Nat.reduceDiv, Nat.reduceMod, Nat.reduceBEq, and_true, true_and, and_false, false_and, and_self, ite_true, ite_false, if_true, if_false, reduceIte, eq_self, not_true, not_false_eq_true, Bool.true_and, Bool.and_true, Bool.false_and, Bool.and_false, Bool.or_true, Bool.true_or, Bool.or_false, Bool.false_or, Bool.not_true, Bool.not_false, reduceCtorEq, upd_e, Nat.add_eq_zero_iff, Nat.add_right_cancel_iff, Nat.add_left_cancel_iff, decide_true, decide_false, Bool.false_eq_true, decide_eq_true_eq, m0, m4, ec]
  by_cases er : vR (aN A) t < 3
  · refine ⟨-2, σ, τ, ?_, ?_, h⟩
    · simp (disch := omega) only [fX5_puts, hP1, hP3, C_hasT_yes hI ok.1 ht, C_hasR_yes hI ok.1 hr, stp_s, bd_s, bd2_s, gd_t, gd_in, clampN, fa_lit, ofN, nI_add, pk_mul, leN, ltN, eqN, eqNg, gNeq, gNlt, gNle, ltNg, leNg, gg, mI_sI, mI_sL, mI_sP, mI_sA, mI_sB, mL_sI, mL_sL, mL_sP, mL_sA, mL_sB, mP_sI, mP_sL, mP_sP, mP_sA, mP_sB, mA_sI, mA_sL, mA_sP, mA_sAg, mA_sB, mB_sI, mB_sL, mB_sP, mB_sA, mB_sBg, mE_sI, mE_sL, mE_sP, mE_sA, mE_sB, Nat.reduceEqDiff, Nat.reduceAdd, Nat.reduceMul, Nat.reduceSub, Nat.reduceLT, Nat.reduceLeDiff, Nat.reduceDiv, Nat.reduceMod, Nat.reduceBEq, and_true, true_and, and_false, false_and, and_self, ite_true, ite_false, if_true, if_false, reduceIte, eq_self, not_true, not_false_eq_true, Bool.true_and, Bool.and_true, Bool.false_and, Bool.and_false, Bool.or_true, Bool.true_or, Bool.or_false, Bool.false_or, Bool.not_true, Bool.not_false, reduceCtorEq, upd_e, Nat.add_eq_zero_iff, Nat.add_right_cancel_iff, Nat.add_left_cancel_iff, decide_true, decide_false, Bool.false_eq_true, decide_eq_true_eq, hN.1, c5, ec, hN.rowOf ht6 hr3, er]
    · have m2 : mA τ 0 7 (2 + t) = nI (vR (aN A) t) := by rw [hM.2.2.1.2.2.1 t ht6, if_pos er]
      simp (disch := omega) only [fX6_puts, M_isT_yes hM.1 ok.1 ht, M_isR_yes hM.1 ok.1 hr, stp_s, bd_s, bd2_s, gd_t, gd_in, clampN, fa_lit, ofN, nI_add, pk_mul, leN, ltN, eqN, eqNg, gNeq, gNlt, gNle, ltNg, leNg, gg, mI_sI, mI_sL, mI_sP, mI_sA, mI_sB, mL_sI, mL_sL, mL_sP, mL_sA, mL_sB, mP_sI, mP_sL, mP_sP, mP_sA, mP_sB, mA_sI, mA_sL, mA_sP, mA_sAg, mA_sB, mB_sI, mB_sL, mB_sP, mB_sA, mB_sBg, mE_sI, mE_sL, mE_sP, mE_sA, mE_sB, Nat.reduceEqDiff, Nat.reduceAdd, Nat.reduceMul, Nat.reduceSub, Nat.reduceLT, Nat.reduceLeDiff, Nat.reduceDiv, Nat.reduceMod, Nat.reduceBEq, and_true, true_and, and_false, false_and, and_self, ite_true, ite_false, if_true, if_false, reduceIte, eq_self, not_true, not_false_eq_true, Bool.true_and, Bool.and_true, Bool.false_and, Bool.and_false, Bool.or_true, Bool.true_or, Bool.or_false, Bool.false_or, Bool.not_true, Bool.not_false, reduceCtorEq, upd_e, Nat.add_eq_zero_iff, Nat.add_right_cancel_iff, Nat.add_left_cancel_iff, decide_true, decide_false, Bool.false_eq_true, decide_eq_true_eq, m0, m4, ec, m2]
  have m2 : mA τ 0 7 (2 + t) = -9 := by rw [hM.2.2.1.2.2.1 t ht6, if_neg er]
  have m14 := hM.2.2.1.2.2.2.2.1 t ht6
  by_cases eg : vG (aN A) t = true
  · refine ⟨-2, σ, τ, ?_, ?_, h⟩
    · simp (disch := omega) only [fX5_puts, hP1, hP3, C_hasT_yes hI ok.1 ht, C_hasR_yes hI ok.1 hr, stp_s, bd_s, bd2_s, gd_t, gd_in, clampN, fa_lit, ofN, nI_add, pk_mul, leN, ltN, eqN, eqNg, gNeq, gNlt, gNle, ltNg, leNg, gg, mI_sI, mI_sL, mI_sP, mI_sA, mI_sB, mL_sI, mL_sL, mL_sP, mL_sA, mL_sB, mP_sI, mP_sL, mP_sP, mP_sA, mP_sB, mA_sI, mA_sL, mA_sP, mA_sAg, mA_sB, mB_sI, mB_sL, mB_sP, mB_sA, mB_sBg, mE_sI, mE_sL, mE_sP, mE_sA, mE_sB, Nat.reduceEqDiff, Nat.reduceAdd, Nat.reduceMul, Nat.reduceSub, Nat.reduceLT, Nat.reduceLeDiff, Nat.reduceDiv, Nat.reduceMod, Nat.reduceBEq, and_true, true_and, and_false, false_and, and_self, ite_true, ite_false, if_true, if_false, reduceIte, eq_self, not_true, not_false_eq_true, Bool.true_and, Bool.and_true, Bool.false_and, Bool.and_false, Bool.or_true, Bool.true_or, Bool.or_false, Bool.false_or, Bool.not_true, Bool.not_false, reduceCtorEq, upd_e, Nat.add_eq_zero_iff, Nat.add_right_cancel_iff, Nat.add_left_cancel_iff, decide_true, decide_false, Bool.false_eq_true, decide_eq_true_eq, hN.1, c5, ec, hN.rowOf ht6 hr3, er, hN.isGone ht6, eg]
    · rw [if_pos eg] at m14
      simp (disch := omega) only [fX6_puts, M_isT_yes hM.1 ok.1 ht, M_isR_yes hM.1 ok.1 hr, stp_s, bd_s, bd2_s, gd_t, gd_in, clampN, fa_lit, ofN, nI_add, pk_mul, leN, ltN, eqN, eqNg, gNeq, gNlt, gNle, ltNg, leNg, gg, mI_sI, mI_sL, mI_sP, mI_sA, mI_sB, mL_sI, mL_sL, mL_sP, mL_sA, mL_sB, mP_sI, mP_sL, mP_sP, mP_sA, mP_sB, mA_sI, mA_sL, mA_sP, mA_sAg, mA_sB, mB_sI, mB_sL, mB_sP, mB_sA, mB_sBg, mE_sI, mE_sL, mE_sP, mE_sA, mE_sB, Nat.reduceEqDiff, Nat.reduceAdd, Nat.reduceMul, Nat.reduceSub, Nat.reduceLT, Nat.reduceLeDiff, Nat.reduceDiv, Nat.reduceMod, Nat.reduceBEq, and_true, true_and, and_false, false_and, and_self, ite_true, ite_false, if_true, if_false, reduceIte, eq_self, not_true, not_false_eq_true, Bool.true_and, Bool.and_true, Bool.false_and, Bool.and_false, Bool.or_true, Bool.true_or, Bool.or_false, Bool.false_or, Bool.not_true, Bool.not_false, reduceCtorEq, upd_e, Nat.add_eq_zero_iff, Nat.add_right_cancel_iff, Nat.add_left_cancel_iff, decide_true, decide_false, Bool.false_eq_true, decide_eq_true_eq, m0, m4, ec, m2, m14]
  rw [if_neg eg] at m14
  have hvr3 : vR (aN A) t = 3 := by omega
  obtain ⟨σ1, e1, hC1⟩ := C_rem ok hC
  obtain ⟨τ1, e2, hM1⟩ := M_rem ok hM
  have ok1 := pushA_ok ok
  have p3 : mP σ1 0 3 = 4 := hC1.1.2.1
  have hN1 : NC σ1 4 (aN A) := hC1.2.2.2.1
  have a4 := hN1.2.2.2.2.1 r (by omega)
  have hM1n : NM (mA τ1 0 7) (aN A) := hM1.2.2.1
  have t3 : mI (sA τ1 0 7 (2 + t) (nI r)) 0 3 = nI (iT (aI A)) := hM1.1.2.2.2.1
  obtain ⟨τ2, e3, ha, hs2⟩ := M_puts82 (T := iT (aI A)) (r := r) hT (by omega) (iT (aI A)) 0 FU 0 (sA τ1 0 7 (2 + t) (nI r)) t3 (by omega) (by show _ < 1000; omega)
  have hcnt : 0 + sumR (fun t' => b2n (decide (mA (sA τ1 0 7 (2 + t) (nI r)) 0 7 (2 + t') = nI r))) 0 (iT (aI A)) = ct6 (fun j => decide ((if j = t then r else vR (aN A) j) = r)) := by
    rw [Nat.zero_add, ← sum_ct hT]
    · refine sumR_c (fun j _ hj => congrArg b2n ?_)
      simp only [mI_sI, mI_sL, mI_sP, mI_sA, mI_sB, mL_sI, mL_sL, mL_sP, mL_sA, mL_sB, mP_sI, mP_sL, mP_sP, mP_sA, mP_sB, mA_sI, mA_sL, mA_sP, mA_sAg, mA_sB, mB_sI, mB_sL, mB_sP, mB_sA, mB_sBg, mE_sI, mE_sL, mE_sP, mE_sA, mE_sB, Nat.reduceEqDiff, Nat.reduceAdd, Nat.reduceMul, Nat.reduceSub, Nat.reduceLT, Nat.reduceLeDiff, Nat.reduceDiv, Nat.reduceMod, Nat.reduceBEq, and_true, true_and, and_false, false_and, and_self, ite_true, ite_false, if_true, if_false, reduceIte, eq_self, not_true, not_false_eq_true, Bool.true_and, Bool.and_true, Bool.false_and, Bool.and_false, Bool.or_true, Bool.true_or, Bool.or_false, Bool.false_or, Bool.not_true, Bool.not_false, reduceCtorEq, upd_e, Nat.add_eq_zero_iff, Nat.add_right_cancel_iff, Nat.add_left_cancel_iff]
      by_cases ej : j = t
      · subst ej; rw [if_pos rfl, if_pos rfl]
        simp
      · rw [if_neg (by omega), if_neg ej, hM1n.2.2.1 j (by omega), ]
        simp only [row_eq (show r < 3 by omega)]
    · intro j hj h6
      rw [if_neg (by omega), (ok.2.2.1.2.2.1 j hj).1]
      exact decide_eq_false (by omega)
  refine ⟨nI (ct6 (fun j => decide ((if j = t then r else vR (aN A) j) = r))), sA (sA σ1 4 4 r (nI (bs6 (fun j => decide (vR (aN A) j = r) || decide (j = t))))) 4 5 r (nI 0), τ2, ?_, ?_, wN (pushA A) (putN (aN A) t r), q, q2, ?_, ?_, ?_⟩
  · simp (disch := omega) only [fX5_puts, hP1, hP3, hP4, C_hasT_yes hI ok.1 ht, C_hasR_yes hI ok.1 hr, stp_s, bd_s, bd2_s, gd_t, gd_in, clampN, fa_lit, ofN, nI_add, pk_mul, leN, ltN, eqN, eqNg, gNeq, gNlt, gNle, ltNg, leNg, gg, mI_sI, mI_sL, mI_sP, mI_sA, mI_sB, mL_sI, mL_sL, mL_sP, mL_sA, mL_sB, mP_sI, mP_sL, mP_sP, mP_sA, mP_sB, mA_sI, mA_sL, mA_sP, mA_sAg, mA_sB, mB_sI, mB_sL, mB_sP, mB_sA, mB_sBg, mE_sI, mE_sL, mE_sP, mE_sA, mE_sB, Nat.reduceEqDiff, Nat.reduceAdd, Nat.reduceMul, Nat.reduceSub, Nat.reduceLT, Nat.reduceLeDiff, Nat.reduceDiv, Nat.reduceMod, Nat.reduceBEq, and_true, true_and, and_false, false_and, and_self, ite_true, ite_false, if_true, if_false, reduceIte, eq_self, not_true, not_false_eq_true, Bool.true_and, Bool.and_true, Bool.false_and, Bool.and_false, Bool.or_true, Bool.true_or, Bool.or_false, Bool.false_or, Bool.not_true, Bool.not_false, reduceCtorEq, upd_e, Nat.add_eq_zero_iff, Nat.add_right_cancel_iff, Nat.add_left_cancel_iff, decide_true, decide_false, Bool.false_eq_true, decide_eq_true_eq, hN.1, c5, ec, hN.rowOf ht6 hr3, er, hN.isGone ht6, eg, e1, p3, a4, bs6_orN _ ht6, bs6_ct]
    refine congrArg some (congrArg (fun z => (nI z, _)) (ct6_c (fun j hj => ?_)))
    by_cases ej : j = t
    · subst ej; simp
    · simp [ej]
  · simp (disch := omega) only [fX6_puts, M_isT_yes hM.1 ok.1 ht, M_isR_yes hM.1 ok.1 hr, stp_s, bd_s, bd2_s, gd_t, gd_in, clampN, fa_lit, ofN, nI_add, pk_mul, leN, ltN, eqN, eqNg, gNeq, gNlt, gNle, ltNg, leNg, gg, mI_sI, mI_sL, mI_sP, mI_sA, mI_sB, mL_sI, mL_sL, mL_sP, mL_sA, mL_sB, mP_sI, mP_sL, mP_sP, mP_sA, mP_sB, mA_sI, mA_sL, mA_sP, mA_sAg, mA_sB, mB_sI, mB_sL, mB_sP, mB_sA, mB_sBg, mE_sI, mE_sL, mE_sP, mE_sA, mE_sB, Nat.reduceEqDiff, Nat.reduceAdd, Nat.reduceMul, Nat.reduceSub, Nat.reduceLT, Nat.reduceLeDiff, Nat.reduceDiv, Nat.reduceMod, Nat.reduceBEq, and_true, true_and, and_false, false_and, and_self, ite_true, ite_false, if_true, if_false, reduceIte, eq_self, not_true, not_false_eq_true, Bool.true_and, Bool.and_true, Bool.false_and, Bool.and_false, Bool.or_true, Bool.true_or, Bool.or_false, Bool.false_or, Bool.not_true, Bool.not_false, reduceCtorEq, upd_e, Nat.add_eq_zero_iff, Nat.add_right_cancel_iff, Nat.add_left_cancel_iff, decide_true, decide_false, Bool.false_eq_true, decide_eq_true_eq, m0, m4, ec, m2, m14, e2]
    rw [e3, hcnt]
  · obtain ⟨o1, o2, o3, o4, o5, o6, o7⟩ := ok1
    exact ⟨o1, o2, putN_ok ok.2.2.1 ht hr hR.2, o4, o5, o6, o7⟩
  · refine hC1.now (by repeat (first | exact sameX.rf | refine sameX.sI ?_ (by first | rfl | exact Or.inl rfl | exact Or.inr rfl | trivial | decide | omega | simp) _ | refine sameX.sA ?_ (by first | rfl | exact Or.inl rfl | exact Or.inr rfl | trivial | decide | omega | simp) _ _ | refine sameX.sL ?_ (by first | rfl | exact Or.inl rfl | exact Or.inr rfl | trivial | decide | omega | simp) _ | refine sameX.sP ?_ (by first | rfl | exact Or.inl rfl | exact Or.inr rfl | trivial | decide | omega | simp) _ | refine sameX.sB ?_ (by first | rfl | exact Or.inl rfl | exact Or.inr rfl | trivial | decide | omega | simp) _ _)) ?_
    obtain ⟨n1, n2, n3, n4, n5, n6⟩ := hN1
    refine ⟨?_, ?_, ?_, ?_, fun k hk => ?_, fun k hk => ?_⟩
    · simp only [mI_sI, mI_sL, mI_sP, mI_sA, mI_sB, mL_sI, mL_sL, mL_sP, mL_sA, mL_sB, mP_sI, mP_sL, mP_sP, mP_sA, mP_sB, mA_sI, mA_sL, mA_sP, mA_sAg, mA_sB, mB_sI, mB_sL, mB_sP, mB_sA, mB_sBg, mE_sI, mE_sL, mE_sP, mE_sA, mE_sB]; exact n1
    · simp only [mI_sI, mI_sL, mI_sP, mI_sA, mI_sB, mL_sI, mL_sL, mL_sP, mL_sA, mL_sB, mP_sI, mP_sL, mP_sP, mP_sA, mP_sB, mA_sI, mA_sL, mA_sP, mA_sAg, mA_sB, mB_sI, mB_sL, mB_sP, mB_sA, mB_sBg, mE_sI, mE_sL, mE_sP, mE_sA, mE_sB]; exact n2
    · simp only [mI_sI, mI_sL, mI_sP, mI_sA, mI_sB, mL_sI, mL_sL, mL_sP, mL_sA, mL_sB, mP_sI, mP_sL, mP_sP, mP_sA, mP_sB, mA_sI, mA_sL, mA_sP, mA_sAg, mA_sB, mB_sI, mB_sL, mB_sP, mB_sA, mB_sBg, mE_sI, mE_sL, mE_sP, mE_sA, mE_sB]; exact n3
    · simp only [mI_sI, mI_sL, mI_sP, mI_sA, mI_sB, mL_sI, mL_sL, mL_sP, mL_sA, mL_sB, mP_sI, mP_sL, mP_sP, mP_sA, mP_sB, mA_sI, mA_sL, mA_sP, mA_sAg, mA_sB, mB_sI, mB_sL, mB_sP, mB_sA, mB_sBg, mE_sI, mE_sL, mE_sP, mE_sA, mE_sB]; exact n4
    · simp only [mI_sI, mI_sL, mI_sP, mI_sA, mI_sB, mL_sI, mL_sL, mL_sP, mL_sA, mL_sB, mP_sI, mP_sL, mP_sP, mP_sA, mP_sB, mA_sI, mA_sL, mA_sP, mA_sAg, mA_sB, mB_sI, mB_sL, mB_sP, mB_sA, mB_sBg, mE_sI, mE_sL, mE_sP, mE_sA, mE_sB, Nat.reduceEqDiff, Nat.reduceAdd, Nat.reduceMul, Nat.reduceSub, Nat.reduceLT, Nat.reduceLeDiff, Nat.reduceDiv, Nat.reduceMod, Nat.reduceBEq, and_true, true_and, and_false, false_and, and_self, ite_true, ite_false, if_true, if_false, reduceIte, eq_self, not_true, not_false_eq_true, Bool.true_and, Bool.and_true, Bool.false_and, Bool.and_false, Bool.or_true, Bool.true_or, Bool.or_false, Bool.false_or, Bool.not_true, Bool.not_false, reduceCtorEq, upd_e, Nat.add_eq_zero_iff, Nat.add_right_cancel_iff, Nat.add_left_cancel_iff]
      by_cases ek : k = r
      · rw [if_pos ek]
        refine congrArg nI (bs6_c (fun j hj => ?_))
        show _ = decide ((if j = t then r else vR (aN A) j) = k)
        by_cases ej : j = t
        · subst ej; simp [ek]
        · simp [ej, ek]
      · rw [if_neg ek, n5 k hk]
        refine congrArg nI (bs6_c (fun j hj => ?_))
        show _ = decide ((if j = t then r else vR (aN A) j) = k)
        by_cases ej : j = t
        · subst ej; rw [if_pos rfl, hvr3, decide_eq_false (by omega), decide_eq_false (by omega)]
        · rw [if_neg ej]
    · simp only [mI_sI, mI_sL, mI_sP, mI_sA, mI_sB, mL_sI, mL_sL, mL_sP, mL_sA, mL_sB, mP_sI, mP_sL, mP_sP, mP_sA, mP_sB, mA_sI, mA_sL, mA_sP, mA_sAg, mA_sB, mB_sI, mB_sL, mB_sP, mB_sA, mB_sBg, mE_sI, mE_sL, mE_sP, mE_sA, mE_sB, Nat.reduceEqDiff, Nat.reduceAdd, Nat.reduceMul, Nat.reduceSub, Nat.reduceLT, Nat.reduceLeDiff, Nat.reduceDiv, Nat.reduceMod, Nat.reduceBEq, and_true, true_and, and_false, false_and, and_self, ite_true, ite_false, if_true, if_false, reduceIte, eq_self, not_true, not_false_eq_true, Bool.true_and, Bool.and_true, Bool.false_and, Bool.and_false, Bool.or_true, Bool.true_or, Bool.or_false, Bool.false_or, Bool.not_true, Bool.not_false, reduceCtorEq, upd_e, Nat.add_eq_zero_iff, Nat.add_right_cancel_iff, Nat.add_left_cancel_iff]
      show _ = nI (if k = r then 0 else vY (aN A) k)
      by_cases ek : k = r
      · rw [if_pos ek, if_pos ek]
      · rw [if_neg ek, if_neg ek]; exact n6 k hk
  · have hs : sameX (fun _ k => k = 7) τ1 τ2 := by
      have s0 : sameX (fun _ k => k = 7) τ1 (sA τ1 0 7 (2 + t) (nI r)) := by repeat (first | exact sameX.rf | refine sameX.sI ?_ (by first | rfl | exact Or.inl rfl | exact Or.inr rfl | trivial | decide | omega | simp) _ | refine sameX.sA ?_ (by first | rfl | exact Or.inl rfl | exact Or.inr rfl | trivial | decide | omega | simp) _ _ | refine sameX.sL ?_ (by first | rfl | exact Or.inl rfl | exact Or.inr rfl | trivial | decide | omega | simp) _ | refine sameX.sP ?_ (by first | rfl | exact Or.inl rfl | exact Or.inr rfl | trivial | decide | omega | simp) _ | refine sameX.sB ?_ (by first | rfl | exact Or.inl rfl | exact Or.inr rfl | trivial | decide | omega | simp) _ _)
      exact s0.tr hs2
    refine hM1.now hs ?_
    have hg : ∀ k, (k < 2 ∨ 14 ≤ k) → mA τ2 0 7 k = mA τ1 0 7 k := fun k hk => by
      rw [ha k]
      simp only [mI_sI, mI_sL, mI_sP, mI_sA, mI_sB, mL_sI, mL_sL, mL_sP, mL_sA, mL_sB, mP_sI, mP_sL, mP_sP, mP_sA, mP_sB, mA_sI, mA_sL, mA_sP, mA_sAg, mA_sB, mB_sI, mB_sL, mB_sP, mB_sA, mB_sBg, mE_sI, mE_sL, mE_sP, mE_sA, mE_sB, Nat.reduceEqDiff, Nat.reduceAdd, Nat.reduceMul, Nat.reduceSub, Nat.reduceLT, Nat.reduceLeDiff, Nat.reduceDiv, Nat.reduceMod, Nat.reduceBEq, and_true, true_and, and_false, false_and, and_self, ite_true, ite_false, if_true, if_false, reduceIte, eq_self, not_true, not_false_eq_true, Bool.true_and, Bool.and_true, Bool.false_and, Bool.and_false, Bool.or_true, Bool.true_or, Bool.or_false, Bool.false_or, Bool.not_true, Bool.not_false, reduceCtorEq, upd_e, Nat.add_eq_zero_iff, Nat.add_right_cancel_iff, Nat.add_left_cancel_iff]
      rw [if_neg (by omega), if_neg (by omega)]
    obtain ⟨n1, n2, n3, n4, n5, n6, n7⟩ := hM1n
    have row2 : ∀ j, j < 6 → mA τ2 0 7 (2 + j) = if (if j = t then r else vR (aN A) j) < 3 then nI (if j = t then r else vR (aN A) j) else -9 := by
      intro j hj
      rw [ha]
      simp only [mI_sI, mI_sL, mI_sP, mI_sA, mI_sB, mL_sI, mL_sL, mL_sP, mL_sA, mL_sB, mP_sI, mP_sL, mP_sP, mP_sA, mP_sB, mA_sI, mA_sL, mA_sP, mA_sAg, mA_sB, mB_sI, mB_sL, mB_sP, mB_sA, mB_sBg, mE_sI, mE_sL, mE_sP, mE_sA, mE_sB, Nat.reduceEqDiff, Nat.reduceAdd, Nat.reduceMul, Nat.reduceSub, Nat.reduceLT, Nat.reduceLeDiff, Nat.reduceDiv, Nat.reduceMod, Nat.reduceBEq, and_true, true_and, and_false, false_and, and_self, ite_true, ite_false, if_true, if_false, reduceIte, eq_self, not_true, not_false_eq_true, Bool.true_and, Bool.and_true, Bool.false_and, Bool.and_false, Bool.or_true, Bool.true_or, Bool.or_false, Bool.false_or, Bool.not_true, Bool.not_false, reduceCtorEq, upd_e, Nat.add_eq_zero_iff, Nat.add_right_cancel_iff, Nat.add_left_cancel_iff]
      rw [if_neg (by omega)]
      by_cases ej : j = t
      · subst ej; rw [if_pos rfl, if_pos rfl, if_pos (by omega)]
      · rw [if_neg (by omega), if_neg ej]; exact n3 j hj
    refine ⟨by rw [hg 0 (by omega)]; exact n1, by rw [hg 1 (by omega)]; exact n2, row2, fun j hj => ?_, fun j hj => by rw [hg _ (by omega)]; exact n5 j hj, by rw [hg 20 (by omega)]; exact n6, fun i hi => by rw [hg _ (by omega)]; exact n7 i hi⟩
    rw [ha]
    simp only [mI_sI, mI_sL, mI_sP, mI_sA, mI_sB, mL_sI, mL_sL, mL_sP, mL_sA, mL_sB, mP_sI, mP_sL, mP_sP, mP_sA, mP_sB, mA_sI, mA_sL, mA_sP, mA_sAg, mA_sB, mB_sI, mB_sL, mB_sP, mB_sA, mB_sBg, mE_sI, mE_sL, mE_sP, mE_sA, mE_sB, Nat.reduceEqDiff, Nat.reduceAdd, Nat.reduceMul, Nat.reduceSub, Nat.reduceLT, Nat.reduceLeDiff, Nat.reduceDiv, Nat.reduceMod, Nat.reduceBEq, and_true, true_and, and_false, false_and, and_self, ite_true, ite_false, if_true, if_false, reduceIte, eq_self, not_true, not_false_eq_true, Bool.true_and, Bool.and_true, Bool.false_and, Bool.and_false, Bool.or_true, Bool.true_or, Bool.or_false, Bool.false_or, Bool.not_true, Bool.not_false, reduceCtorEq, upd_e, Nat.add_eq_zero_iff, Nat.add_right_cancel_iff, Nat.add_left_cancel_iff]
    show _ = if (if j = t then r else vR (aN A) j) < 3 then nI (if (if j = t then r else vR (aN A) j) = r then 0 else vY (aN A) (if j = t then r else vR (aN A) j)) else 0
    rw [show 8 + j - 6 = 2 + j by omega, if_neg (show ¬ 8 + j = 2 + t by omega)]
    by_cases ej : j = t
    · subst ej
      rw [if_pos rfl, if_pos rfl, if_pos ⟨by omega, by omega, rfl⟩, if_pos (show r < 3 by omega), if_pos rfl]
      rfl
    · rw [if_neg (show ¬ 2 + j = 2 + t by omega), if_neg ej, n3 j hj, n4 j hj]
      simp only [row_eq (show r < 3 by omega)]
      by_cases e5 : vR (aN A) j = r
      · have hjT : j < iT (aI A) := by
          rcases Nat.lt_or_ge j (iT (aI A)) with q | q
          · exact q
          · have := (ok.2.2.1.2.2.1 j q).1; omega
        rw [if_pos ⟨by omega, by omega, e5⟩, if_pos (by omega), if_pos e5]
        rfl
      · rw [if_neg (fun q => e5 q.2.2), if_neg e5]

theorem M_vin20 {τ : Mem} {T : Nat} (hT : T ≤ 6) (h3 : mI τ 0 3 = nI T) {a1 b1 n1 fr r : Nat} {rw : Nat → Nat} (hr : r < 3) (hn1 : fr + T ≤ n1) (hn2 : n1 < 1000) (ha : ∀ t, t < T → mA τ a1 b1 (fr + t) = if rw t < 3 then nI (rw t) else -9) (k5 : Nat → Nat → Nat → Int32 → Int32 → Int32 → Option Int32) (x3 : Int32) : ∀ (d i n c : Nat), i + d = T → d < n → c ≤ i → fX6_vinegar_20 k5 τ 0 n a1 b1 n1 (nI fr) x3 (nI r) (nI c) (nI i) = k5 a1 b1 n1 (nI fr) (x3 + nI (vin (c + sumR (fun t => b2n (decide (rw t = r))) i d))) (nI (r + 1)) := by
  intro d
  induction d with
  | zero =>
    intro i n c hi hn hc
    obtain ⟨n, rfl⟩ : ∃ m, n = m + 1 := ⟨n - 1, by omega⟩
    by_cases e : c = 0
    · subst e
      simp (disch := omega) only [fX6_vinegar_20, stp_s, bd_s, bd2_s, gd_t, gd_in, clampN, fa_lit, ofN, nI_add, pk_mul, leN, ltN, eqN, eqNg, gNeq, gNlt, gNle, ltNg, leNg, gg, mI_sI, mI_sL, mI_sP, mI_sA, mI_sB, mL_sI, mL_sL, mL_sP, mL_sA, mL_sB, mP_sI, mP_sL, mP_sP, mP_sA, mP_sB, mA_sI, mA_sL, mA_sP, mA_sAg, mA_sB, mB_sI, mB_sL, mB_sP, mB_sA, mB_sBg, mE_sI, mE_sL, mE_sP, mE_sA, mE_sB, Nat.reduceEqDiff, Nat.reduceAdd, Nat.reduceMul, Nat.reduceSub, Nat.reduceLT, Nat.reduceLeDiff, Nat.reduceDiv, Nat.reduceMod, Nat.reduceBEq, and_true, true_and, and_false, false_and, and_self, ite_true, ite_false, if_true, if_false, reduceIte, eq_self, not_true, not_false_eq_true, Bool.true_and, Bool.and_true, Bool.false_and, Bool.and_false, Bool.or_true, Bool.true_or, Bool.or_false, Bool.false_or, Bool.not_true, Bool.not_false, reduceCtorEq, upd_e, Nat.add_eq_zero_iff, Nat.add_right_cancel_iff, Nat.add_left_cancel_iff, decide_true, decide_false, Bool.false_eq_true, decide_eq_true_eq, h3, show T ≤ i by omega, sumR]
      rfl
    · simp (disch := omega) only [fX6_vinegar_20, stp_s, bd_s, bd2_s, gd_t, gd_in, clampN, fa_lit, ofN, nI_add, pk_mul, leN, ltN, eqN, eqNg, gNeq, gNlt, gNle, ltNg, leNg, gg, mI_sI, mI_sL, mI_sP, mI_sA, mI_sB, mL_sI, mL_sL, mL_sP, mL_sA, mL_sB, mP_sI, mP_sL, mP_sP, mP_sA, mP_sB, mA_sI, mA_sL, mA_sP, mA_sAg, mA_sB, mB_sI, mB_sL, mB_sP, mB_sA, mB_sBg, mE_sI, mE_sL, mE_sP, mE_sA, mE_sB, Nat.reduceEqDiff, Nat.reduceAdd, Nat.reduceMul, Nat.reduceSub, Nat.reduceLT, Nat.reduceLeDiff, Nat.reduceDiv, Nat.reduceMod, Nat.reduceBEq, and_true, true_and, and_false, false_and, and_self, ite_true, ite_false, if_true, if_false, reduceIte, eq_self, not_true, not_false_eq_true, Bool.true_and, Bool.and_true, Bool.false_and, Bool.and_false, Bool.or_true, Bool.true_or, Bool.or_false, Bool.false_or, Bool.not_true, Bool.not_false, reduceCtorEq, upd_e, Nat.add_eq_zero_iff, Nat.add_right_cancel_iff, Nat.add_left_cancel_iff, decide_true, decide_false, Bool.false_eq_true, decide_eq_true_eq, h3, show T ≤ i by omega, sumR, pk_div, e, vin, Nat.add_zero]
  | succ d ih =>
    intro i n c hi hn hc
    obtain ⟨n, rfl⟩ : ∃ m, n = m + 1 := ⟨n - 1, by omega⟩
    rw [sumR_s]
    have hb : ∀ z : Bool, b2n z ≤ 1 := b2n_le
    by_cases e : rw i = r
    · have m : mA τ a1 b1 (fr + i) = nI r := by rw [ha i (by omega), e, if_pos hr]
      simp (disch := omega) only [fX6_vinegar_20, stp_s, bd_s, bd2_s, gd_t, gd_in, clampN, fa_lit, ofN, nI_add, pk_mul, leN, ltN, eqN, eqNg, gNeq, gNlt, gNle, ltNg, leNg, gg, mI_sI, mI_sL, mI_sP, mI_sA, mI_sB, mL_sI, mL_sL, mL_sP, mL_sA, mL_sB, mP_sI, mP_sL, mP_sP, mP_sA, mP_sB, mA_sI, mA_sL, mA_sP, mA_sAg, mA_sB, mB_sI, mB_sL, mB_sP, mB_sA, mB_sBg, mE_sI, mE_sL, mE_sP, mE_sA, mE_sB, Nat.reduceEqDiff, Nat.reduceAdd, Nat.reduceMul, Nat.reduceSub, Nat.reduceLT, Nat.reduceLeDiff, Nat.reduceDiv, Nat.reduceMod, Nat.reduceBEq, and_true, true_and, and_false, false_and, and_self, ite_true, ite_false, if_true, if_false, reduceIte, eq_self, not_true, not_false_eq_true, Bool.true_and, Bool.and_true, Bool.false_and, Bool.and_false, Bool.or_true, Bool.true_or, Bool.or_false, Bool.false_or, Bool.not_true, Bool.not_false, reduceCtorEq, upd_e, Nat.add_eq_zero_iff, Nat.add_right_cancel_iff, Nat.add_left_cancel_iff, decide_true, decide_false, Bool.false_eq_true, decide_eq_true_eq, h3, show ¬ T ≤ i by omega, m]
      rw [ih (i + 1) n (c + 1) (by omega) (by omega) (by omega), e, decide_eq_true rfl]
      rw [show c + (b2n true + sumR (fun t => b2n (decide (rw t = r))) (i + 1) d) = c + 1 + sumR (fun t => b2n (decide (rw t = r))) (i + 1) d by show c + (1 + _) = _; omega]
    · have m : ¬ mA τ a1 b1 (fr + i) = nI r := by
        rw [ha i (by omega), row_eq hr]; exact e
      simp (disch := omega) only [fX6_vinegar_20, stp_s, bd_s, bd2_s, gd_t, gd_in, clampN, fa_lit, ofN, nI_add, pk_mul, leN, ltN, eqN, eqNg, gNeq, gNlt, gNle, ltNg, leNg, gg, mI_sI, mI_sL, mI_sP, mI_sA, mI_sB, mL_sI, mL_sL, mL_sP, mL_sA, mL_sB, mP_sI, mP_sL, mP_sP, mP_sA, mP_sB, mA_sI, mA_sL, mA_sP, mA_sAg, mA_sB, mB_sI, mB_sL, mB_sP, mB_sA, mB_sBg, mE_sI, mE_sL, mE_sP, mE_sA, mE_sB, Nat.reduceEqDiff, Nat.reduceAdd, Nat.reduceMul, Nat.reduceSub, Nat.reduceLT, Nat.reduceLeDiff, Nat.reduceDiv, Nat.reduceMod, Nat.reduceBEq, and_true, true_and, and_false, false_and, and_self, ite_true, ite_false, if_true, if_false, reduceIte, eq_self, not_true, not_false_eq_true, Bool.true_and, Bool.and_true, Bool.false_and, Bool.and_false, Bool.or_true, Bool.true_or, Bool.or_false, Bool.false_or, Bool.not_true, Bool.not_false, reduceCtorEq, upd_e, Nat.add_eq_zero_iff, Nat.add_right_cancel_iff, Nat.add_left_cancel_iff, decide_true, decide_false, Bool.false_eq_true, decide_eq_true_eq, h3, show ¬ T ≤ i by omega, m, Nat.add_zero]
      rw [ih (i + 1) n c (by omega) (by omega) (by omega), decide_eq_false e]
      rw [show c + (b2n false + sumR (fun t => b2n (decide (rw t = r))) (i + 1) d) = c + sumR (fun t => b2n (decide (rw t = r))) (i + 1) d by show c + (0 + _) = _; omega]
theorem M_vin5 {τ : Mem} {T R : Nat} (hT : T ≤ 6) (h3 : mI τ 0 3 = nI T) (hR : R ≤ 3) (h1 : mI τ 0 1 = nI R) {a1 b1 n1 fr : Nat} {rw : Nat → Nat} (hn1 : fr + T ≤ n1) (hn2 : n1 < 1000) (ha : ∀ t, t < T → mA τ a1 b1 (fr + t) = if rw t < 3 then nI (rw t) else -9) : ∀ (d r n s : Nat), r + d = R → d < n → fX6_vinegar_5 τ 0 n a1 b1 n1 (nI fr) (nI s) (nI r) = some (nI (s + sumR (fun r => vin (sumR (fun t => b2n (decide (rw t = r))) 0 T)) r d)) := by
  intro d
  induction d with
  | zero =>
    intro r n s hi hn
    obtain ⟨n, rfl⟩ : ∃ m, n = m + 1 := ⟨n - 1, by omega⟩
    simp (disch := omega) only [fX6_vinegar_5, stp_s, bd_s, bd2_s, gd_t, gd_in, clampN, fa_lit, ofN, nI_add, pk_mul, leN, ltN, eqN, eqNg, gNeq, gNlt, gNle, ltNg, leNg, gg, mI_sI, mI_sL, mI_sP, mI_sA, mI_sB, mL_sI, mL_sL, mL_sP, mL_sA, mL_sB, mP_sI, mP_sL, mP_sP, mP_sA, mP_sB, mA_sI, mA_sL, mA_sP, mA_sAg, mA_sB, mB_sI, mB_sL, mB_sP, mB_sA, mB_sBg, mE_sI, mE_sL, mE_sP, mE_sA, mE_sB, Nat.reduceEqDiff, Nat.reduceAdd, Nat.reduceMul, Nat.reduceSub, Nat.reduceLT, Nat.reduceLeDiff, Nat.reduceDiv, Nat.reduceMod, Nat.reduceBEq, and_true, true_and, and_false, false_and, and_self, ite_true, ite_false, if_true, if_false, reduceIte, eq_self, not_true, not_false_eq_true, Bool.true_and, Bool.and_true, Bool.false_and, Bool.and_false, Bool.or_true, Bool.true_or, Bool.or_false, Bool.false_or, Bool.not_true, Bool.not_false, reduceCtorEq, upd_e, Nat.add_eq_zero_iff, Nat.add_right_cancel_iff, Nat.add_left_cancel_iff, decide_true, decide_false, Bool.false_eq_true, decide_eq_true_eq, h1, show R ≤ r by omega, sumR, Nat.add_zero]
  | succ d ih =>
    intro r n s hi hn
    obtain ⟨n, rfl⟩ : ∃ m, n = m + 1 := ⟨n - 1, by omega⟩
    rw [fX6_vinegar_5.eq_2, h1, iteLE (by omega) (by omega), if_neg (by omega), l0, M_vin20 hT h3 (by omega) hn1 hn2 ha _ _ T 0 FU 0 (by omega) (by show _ < 1000; omega) (by omega), nI_add, ih (r + 1) n _ (by omega) (by omega), sumR_s, Nat.zero_add, Nat.add_assoc]
theorem M_vinegar {τ : Mem} {T R : Nat} (hT : T ≤ 6) (h3 : mI τ 0 3 = nI T) (hR : R ≤ 3) (h1 : mI τ 0 1 = nI R) {a1 b1 n1 fr : Nat} {rw : Nat → Nat} (hn1 : fr + T ≤ n1) (hn2 : n1 < 1000) (ha : ∀ t, t < T → mA τ a1 b1 (fr + t) = if rw t < 3 then nI (rw t) else -9) : fX6_vinegar τ 0 a1 b1 n1 (nI fr) = some (nI (sumR (fun r => vin (sumR (fun t => b2n (decide (rw t = r))) 0 T)) 0 R)) := by
  unfold fX6_vinegar
  have e := M_vin5 hT h3 hR h1 hn1 hn2 ha R 0 FU 0 (by omega) (by show _ < 1000; omega)
  rw [Nat.zero_add] at e
  exact e
theorem M_day49 {T : Nat} (hT : T ≤ 6) : ∀ (d i n : Nat) (τ : Mem), mI τ 0 3 = nI T → i + d = T → d < n → ∃ τ', fX6_day_49 0 n τ (nI i) = bd (fX6_leavers τ' 0) (fun r12 => some (r12, τ')) ∧ (∀ k, mA τ' 0 7 k = if 8 + i ≤ k ∧ k < 8 + T ∧ ¬ mA τ 0 7 (k - 6) = -9 then mA τ 0 7 k + 1 else mA τ 0 7 k) ∧ sameX (fun _ k => k = 7) τ τ' := by
  intro d
  induction d with
  | zero =>
    intro i n τ h3 hi hn
    obtain ⟨n, rfl⟩ : ∃ m, n = m + 1 := ⟨n - 1, by omega⟩
    refine ⟨τ, ?_, fun k => by rw [if_neg (by omega)], sameX.rf⟩
    rw [fX6_day_49.eq_2, h3, iteLE (by omega) (by omega), if_pos (by omega)]
  | succ d ih =>
    intro i n τ h3 hi hn
    obtain ⟨n, rfl⟩ : ∃ m, n = m + 1 := ⟨n - 1, by omega⟩
    have big : ∀ v : Int32, (∀ k, k = 8 + i → v = if ¬ mA τ 0 7 (2 + i) = -9 then mA τ 0 7 k + 1 else mA τ 0 7 k) → ∀ τ', (∀ k, mA τ' 0 7 k = if 8 + (i + 1) ≤ k ∧ k < 8 + T ∧ ¬ mA (sA τ 0 7 (8 + i) v) 0 7 (k - 6) = -9 then mA (sA τ 0 7 (8 + i) v) 0 7 k + 1 else mA (sA τ 0 7 (8 + i) v) 0 7 k) → ∀ k, mA τ' 0 7 k = if 8 + i ≤ k ∧ k < 8 + T ∧ ¬ mA τ 0 7 (k - 6) = -9 then mA τ 0 7 k + 1 else mA τ 0 7 k := by
      intro v hv τ' ha k
      rw [ha k]
      simp only [mI_sI, mI_sL, mI_sP, mI_sA, mI_sB, mL_sI, mL_sL, mL_sP, mL_sA, mL_sB, mP_sI, mP_sL, mP_sP, mP_sA, mP_sB, mA_sI, mA_sL, mA_sP, mA_sAg, mA_sB, mB_sI, mB_sL, mB_sP, mB_sA, mB_sBg, mE_sI, mE_sL, mE_sP, mE_sA, mE_sB, Nat.reduceEqDiff, Nat.reduceAdd, Nat.reduceMul, Nat.reduceSub, Nat.reduceLT, Nat.reduceLeDiff, Nat.reduceDiv, Nat.reduceMod, Nat.reduceBEq, and_true, true_and, and_false, false_and, and_self, ite_true, ite_false, if_true, if_false, reduceIte, eq_self, not_true, not_false_eq_true, Bool.true_and, Bool.and_true, Bool.false_and, Bool.and_false, Bool.or_true, Bool.true_or, Bool.or_false, Bool.false_or, Bool.not_true, Bool.not_false, reduceCtorEq, upd_e, Nat.add_eq_zero_iff, Nat.add_right_cancel_iff, Nat.add_left_cancel_iff]
      by_cases ek : k = 8 + i
      · rw [if_neg (show ¬ (8 + (i + 1) ≤ k ∧ k < 8 + T ∧ _) from fun q => by omega), if_pos ek, hv k ek]
        have ek2 : k - 6 = 2 + i := by omega
        rw [ek2]
        by_cases e5 : mA τ 0 7 (2 + i) = -9
        · rw [if_neg (fun q => q e5), if_neg (fun q => q.2.2 e5)]
        · rw [if_pos e5, if_pos ⟨by omega, by omega, e5⟩]
      · rw [if_neg ek]
        by_cases ek3 : 8 + (i + 1) ≤ k ∧ k < 8 + T
        · rw [if_neg (show ¬ k - 6 = 8 + i by omega)]
          by_cases e5 : mA τ 0 7 (k - 6) = -9
          · rw [if_neg (fun q => q.2.2 e5), if_neg (fun q => q.2.2 e5)]
          · rw [if_pos ⟨ek3.1, ek3.2, e5⟩, if_pos ⟨by omega, ek3.2, e5⟩]
        · rw [if_neg (fun q => ek3 ⟨q.1, q.2.1⟩), if_neg (fun q => ek3 ⟨by omega, q.2.1⟩)]
    by_cases e : mA τ 0 7 (2 + i) = -9
    · obtain ⟨τ', e1, ha, hs⟩ := ih (i + 1) n (sA τ 0 7 (8 + i) (mA τ 0 7 (8 + i) + 0)) (by simp only [mI_sI, mI_sL, mI_sP, mI_sA, mI_sB, mL_sI, mL_sL, mL_sP, mL_sA, mL_sB, mP_sI, mP_sL, mP_sP, mP_sA, mP_sB, mA_sI, mA_sL, mA_sP, mA_sAg, mA_sB, mB_sI, mB_sL, mB_sP, mB_sA, mB_sBg, mE_sI, mE_sL, mE_sP, mE_sA, mE_sB]; exact h3) (by omega) (by omega)
      refine ⟨τ', ?_, big _ (fun k hk => by rw [if_neg (fun q => q e), hk, Int32.add_zero]) τ' ha, sameX.tr (by repeat (first | exact sameX.rf | refine sameX.sI ?_ (by first | rfl | exact Or.inl rfl | exact Or.inr rfl | trivial | decide | omega | simp) _ | refine sameX.sA ?_ (by first | rfl | exact Or.inl rfl | exact Or.inr rfl | trivial | decide | omega | simp) _ _ | refine sameX.sL ?_ (by first | rfl | exact Or.inl rfl | exact Or.inr rfl | trivial | decide | omega | simp) _ | refine sameX.sP ?_ (by first | rfl | exact Or.inl rfl | exact Or.inr rfl | trivial | decide | omega | simp) _ | refine sameX.sB ?_ (by first | rfl | exact Or.inl rfl | exact Or.inr rfl | trivial | decide | omega | simp) _ _)) hs⟩
      rw [fX6_day_49.eq_2, h3, iteLE (by omega) (by omega), if_neg (by omega), show (8 : Int32) = nI 8 from rfl, show (2 : Int32) = nI 2 from rfl, nI_add, nI_add, gd_in (by omega) (by decide), gd_in (by omega) (by decide), gd_in (by omega) (by decide), gd_in (by omega) (by decide), clampN (by omega), clampN (by omega), if_pos e, stp_s, nI_1]
      exact e1
    · obtain ⟨τ', e1, ha, hs⟩ := ih (i + 1) n (sA τ 0 7 (8 + i) (mA τ 0 7 (8 + i) + 1)) (by simp only [mI_sI, mI_sL, mI_sP, mI_sA, mI_sB, mL_sI, mL_sL, mL_sP, mL_sA, mL_sB, mP_sI, mP_sL, mP_sP, mP_sA, mP_sB, mA_sI, mA_sL, mA_sP, mA_sAg, mA_sB, mB_sI, mB_sL, mB_sP, mB_sA, mB_sBg, mE_sI, mE_sL, mE_sP, mE_sA, mE_sB]; exact h3) (by omega) (by omega)
      refine ⟨τ', ?_, big _ (fun k hk => by rw [if_pos e, hk]) τ' ha, sameX.tr (by repeat (first | exact sameX.rf | refine sameX.sI ?_ (by first | rfl | exact Or.inl rfl | exact Or.inr rfl | trivial | decide | omega | simp) _ | refine sameX.sA ?_ (by first | rfl | exact Or.inl rfl | exact Or.inr rfl | trivial | decide | omega | simp) _ _ | refine sameX.sL ?_ (by first | rfl | exact Or.inl rfl | exact Or.inr rfl | trivial | decide | omega | simp) _ | refine sameX.sP ?_ (by first | rfl | exact Or.inl rfl | exact Or.inr rfl | trivial | decide | omega | simp) _ | refine sameX.sB ?_ (by first | rfl | exact Or.inl rfl | exact Or.inr rfl | trivial | decide | omega | simp) _ _)) hs⟩
      rw [fX6_day_49.eq_2, h3, iteLE (by omega) (by omega), if_neg (by omega), show (8 : Int32) = nI 8 from rfl, show (2 : Int32) = nI 2 from rfl, nI_add, nI_add, gd_in (by omega) (by decide), gd_in (by omega) (by decide), gd_in (by omega) (by decide), gd_in (by omega) (by decide), clampN (by omega), clampN (by omega), if_neg e, stp_s, nI_1]
      exact e1
theorem passN_ok {N : NV} {T R : Nat} (ok : NOK N T R) (h : vD N < 200) : NOK (passN N) T R := by
  obtain ⟨h1, h2, h3, h4, h5, h6⟩ := ok
  exact ⟨by show vD N + 1 ≤ 200; omega, h2, h3, fun r hr => by have := h4 r hr; show vY N r + 1 ≤ vD N + 1; omega, h5, h6⟩
theorem cnt_sum {N : NV} {T R r : Nat} (ok : NOK N T R) (hT : T ≤ 6) (hr : r < 3) : sumR (fun t => b2n (decide (vR N t = r))) 0 T = cnt N r := by
  unfold cnt
  refine sum_ct hT (fun t ht h6 => ?_)
  rw [(ok.2.2.1 t ht).1]
  exact decide_eq_false (by omega)
theorem cnt_0 {N : NV} {T R r : Nat} (ok : NOK N T R) (hr : r < 3) (hR : R ≤ r) : cnt N r = 0 := by
  unfold cnt
  have : ∀ t, t < 6 → decide (vR N t = r) = false := fun t ht => decide_eq_false (fun e => by have := (ok.2.1 t ht).2 (by omega); omega)
  rw [ct6_c (c := fun _ => false) this]
  rfl
theorem vin_sum {N : NV} {T R : Nat} (ok : NOK N T R) (hT : T ≤ 6) (hR : 1 ≤ R ∧ R ≤ 3) : sumR (fun r => vin (sumR (fun t => b2n (decide (vR N t = r))) 0 T)) 0 R = vin (cnt N 0) + vin (cnt N 1) + vin (cnt N 2) := by
  have z : vin 0 = 0 := rfl
  have e : R = 1 ∨ R = 2 ∨ R = 3 := by omega
  rcases e with rfl | rfl | rfl
  · simp only [sumR_s, Nat.reduceAdd, Nat.zero_add, cnt_sum ok hT (show 0 < 3 by decide), cnt_0 ok (show 1 < 3 by decide) (by decide), cnt_0 ok (show 2 < 3 by decide) (by decide), z]; rfl
  · simp only [sumR_s, Nat.reduceAdd, Nat.zero_add, cnt_sum ok hT (show 0 < 3 by decide), cnt_sum ok hT (show 1 < 3 by decide), cnt_0 ok (show 2 < 3 by decide) (by decide), z]; rfl
  · simp only [sumR_s, Nat.reduceAdd, Nat.zero_add, cnt_sum ok hT (show 0 < 3 by decide), cnt_sum ok hT (show 1 < 3 by decide), cnt_sum ok hT (show 2 < 3 by decide)]
    show _ + (_ + (_ + 0)) = _
    omega
theorem op_day {σ τ : Mem} (h : Rel σ τ)  : ∃ (r : Int32) (σ' : Mem) (τ' : Mem), fX5_day σ 0  = some (r, σ') ∧ fX6_day τ 0  = some (r, τ') ∧ Rel σ' τ' := by
  obtain ⟨A, q, q2, ok, hC, hM⟩ := id h
  have hP3 : mP σ 0 3 = 4 := hC.1.2.1
  have hP4 : mP σ 0 4 = 5 := hC.1.2.2.1
  have hN := hC.2.2.2.1
  have hT := ok.1.2.2.2.1
  have hR := ok.1.2.1
  have hD := ok.2.2.1.1
  have m0 : mA τ 0 7 0 = nI (vD (aN A)) := hM.2.2.1.1
  by_cases e200 : vD (aN A) = 200
  · refine ⟨-2, σ, τ, ?_, ?_, h⟩
    · simp (disch := omega) only [fX5_day, stp_s, bd_s, bd2_s, gd_t, gd_in, clampN, fa_lit, ofN, nI_add, pk_mul, leN, ltN, eqN, eqNg, gNeq, gNlt, gNle, ltNg, leNg, gg, mI_sI, mI_sL, mI_sP, mI_sA, mI_sB, mL_sI, mL_sL, mL_sP, mL_sA, mL_sB, mP_sI, mP_sL, mP_sP, mP_sA, mP_sB, mA_sI, mA_sL, mA_sP, mA_sAg, mA_sB, mB_sI, mB_sL, mB_sP, mB_sA, mB_sBg, mE_sI, mE_sL, mE_sP, mE_sA, mE_sB, Nat.reduceEqDiff, Nat.reduceAdd, Nat.reduceMul, Nat.reduceSub, Nat.reduceLT, Nat.reduceLeDiff, Nat.reduceDiv, Nat.reduceMod, Nat.reduceBEq, and_true, true_and, and_false, false_and, and_self, ite_true, ite_false, if_true, if_false, reduceIte, eq_self, not_true, not_false_eq_true, Bool.true_and, Bool.and_true, Bool.false_and, Bool.and_false, Bool.or_true, Bool.true_or, Bool.or_false, Bool.false_or, Bool.not_true, Bool.not_false, reduceCtorEq, upd_e, Nat.add_eq_zero_iff, Nat.add_right_cancel_iff, Nat.add_left_cancel_iff, decide_true, decide_false, Bool.false_eq_true, decide_eq_true_eq, hP3, hN.1, e200, Nat.lt_irrefl]
    · simp (disch := omega) only [fX6_day, stp_s, bd_s, bd2_s, gd_t, gd_in, clampN, fa_lit, ofN, nI_add, pk_mul, leN, ltN, eqN, eqNg, gNeq, gNlt, gNle, ltNg, leNg, gg, mI_sI, mI_sL, mI_sP, mI_sA, mI_sB, mL_sI, mL_sL, mL_sP, mL_sA, mL_sB, mP_sI, mP_sL, mP_sP, mP_sA, mP_sB, mA_sI, mA_sL, mA_sP, mA_sAg, mA_sB, mB_sI, mB_sL, mB_sP, mB_sA, mB_sBg, mE_sI, mE_sL, mE_sP, mE_sA, mE_sB, Nat.reduceEqDiff, Nat.reduceAdd, Nat.reduceMul, Nat.reduceSub, Nat.reduceLT, Nat.reduceLeDiff, Nat.reduceDiv, Nat.reduceMod, Nat.reduceBEq, and_true, true_and, and_false, false_and, and_self, ite_true, ite_false, if_true, if_false, reduceIte, eq_self, not_true, not_false_eq_true, Bool.true_and, Bool.and_true, Bool.false_and, Bool.and_false, Bool.or_true, Bool.true_or, Bool.or_false, Bool.false_or, Bool.not_true, Bool.not_false, reduceCtorEq, upd_e, Nat.add_eq_zero_iff, Nat.add_right_cancel_iff, Nat.add_left_cancel_iff, decide_true, decide_false, Bool.false_eq_true, decide_eq_true_eq, m0, e200]
  have hlt : vD (aN A) < 200 := by omega
  obtain ⟨σ1, e1, hC1⟩ := C_rem ok hC
  obtain ⟨τ1, e2, hM1⟩ := M_rem ok hM
  have ok1 := pushA_ok ok
  have p3 : mP σ1 0 3 = 4 := hC1.1.2.1
  have hN1 : NC σ1 4 (aN A) := hC1.2.2.2.1
  obtain ⟨σ2, e3, n2, s2⟩ := hN1.passDay
  have hC2 : CSq σ2 q q2 (wN (pushA A) (passN (aN A))) := hC1.now s2 n2
  have okp : AOK (wN (pushA A) (passN (aN A))) := by
    obtain ⟨o1, o2, o3, o4, o5, o6, o7⟩ := ok1
    exact ⟨o1, o2, passN_ok ok.2.2.1 hlt, o4, o5, o6, o7⟩
  have hM1n : NM (mA τ1 0 7) (aN A) := hM1.2.2.1
  have i3 : mI τ1 0 3 = nI (iT (aI A)) := hM1.1.2.2.2.1
  have i1 : mI τ1 0 1 = nI (iR (aI A)) := hM1.1.2.1
  have ev := M_vinegar hT i3 hR.2 i1 (a1 := 0) (b1 := 7) (n1 := 26) (fr := 2) (rw := vR (aN A)) (by omega) (by decide) (fun t ht => hM1n.2.2.1 t (by omega))
  rw [vin_sum ok.2.2.1 hT hR] at ev
  obtain ⟨w, hw⟩ : ∃ w, w = vin (cnt (aN A) 0) + vin (cnt (aN A) 1) + vin (cnt (aN A) 2) := ⟨_, rfl⟩
  rw [← hw] at ev
  have v1 : mA τ1 0 7 1 = vV (aN A) := hM1n.2.1
  have v0 : mA τ1 0 7 0 = nI (vD (aN A)) := hM1n.1
  obtain ⟨τ2, e4, ha, hs2⟩ := M_day49 hT (iT (aI A)) 0 FU (sA (sA τ1 0 7 1 (vV (aN A) + nI w)) 0 7 0 (nI (vD (aN A) + 1))) i3 (by omega) (by show _ < 1000; omega)
  have hM2 : MS τ2 (wN (pushA A) (passN (aN A))) := by
    have hs : sameX (fun _ k => k = 7) τ1 τ2 := by
      have s0 : sameX (fun _ k => k = 7) τ1 (sA (sA τ1 0 7 1 (vV (aN A) + nI w)) 0 7 0 (nI (vD (aN A) + 1))) := by repeat (first | exact sameX.rf | refine sameX.sI ?_ (by first | rfl | exact Or.inl rfl | exact Or.inr rfl | trivial | decide | omega | simp) _ | refine sameX.sA ?_ (by first | rfl | exact Or.inl rfl | exact Or.inr rfl | trivial | decide | omega | simp) _ _ | refine sameX.sL ?_ (by first | rfl | exact Or.inl rfl | exact Or.inr rfl | trivial | decide | omega | simp) _ | refine sameX.sP ?_ (by first | rfl | exact Or.inl rfl | exact Or.inr rfl | trivial | decide | omega | simp) _ | refine sameX.sB ?_ (by first | rfl | exact Or.inl rfl | exact Or.inr rfl | trivial | decide | omega | simp) _ _)
      exact s0.tr hs2
    refine hM1.now hs ?_
    obtain ⟨n1, n2, n3, n4, n5, n6, n7⟩ := hM1n
    have hg : ∀ k, (2 ≤ k ∧ k < 8) ∨ 14 ≤ k → mA τ2 0 7 k = mA τ1 0 7 k := fun k hk => by
      rw [ha k]
      simp only [mI_sI, mI_sL, mI_sP, mI_sA, mI_sB, mL_sI, mL_sL, mL_sP, mL_sA, mL_sB, mP_sI, mP_sL, mP_sP, mP_sA, mP_sB, mA_sI, mA_sL, mA_sP, mA_sAg, mA_sB, mB_sI, mB_sL, mB_sP, mB_sA, mB_sBg, mE_sI, mE_sL, mE_sP, mE_sA, mE_sB, Nat.reduceEqDiff, Nat.reduceAdd, Nat.reduceMul, Nat.reduceSub, Nat.reduceLT, Nat.reduceLeDiff, Nat.reduceDiv, Nat.reduceMod, Nat.reduceBEq, and_true, true_and, and_false, false_and, and_self, ite_true, ite_false, if_true, if_false, reduceIte, eq_self, not_true, not_false_eq_true, Bool.true_and, Bool.and_true, Bool.false_and, Bool.and_false, Bool.or_true, Bool.true_or, Bool.or_false, Bool.false_or, Bool.not_true, Bool.not_false, reduceCtorEq, upd_e, Nat.add_eq_zero_iff, Nat.add_right_cancel_iff, Nat.add_left_cancel_iff]
      rw [if_neg (by omega), if_neg (by omega), if_neg (by omega)]
    refine ⟨?_, ?_, fun j hj => by rw [hg _ (by omega)]; exact n3 j hj, fun j hj => ?_, fun j hj => by rw [hg _ (by omega)]; exact n5 j hj, by rw [hg 20 (by omega)]; exact n6, fun i hi => by rw [hg _ (by omega)]; exact n7 i hi⟩
    · rw [ha]
      simp only [mI_sI, mI_sL, mI_sP, mI_sA, mI_sB, mL_sI, mL_sL, mL_sP, mL_sA, mL_sB, mP_sI, mP_sL, mP_sP, mP_sA, mP_sB, mA_sI, mA_sL, mA_sP, mA_sAg, mA_sB, mB_sI, mB_sL, mB_sP, mB_sA, mB_sBg, mE_sI, mE_sL, mE_sP, mE_sA, mE_sB, Nat.reduceEqDiff, Nat.reduceAdd, Nat.reduceMul, Nat.reduceSub, Nat.reduceLT, Nat.reduceLeDiff, Nat.reduceDiv, Nat.reduceMod, Nat.reduceBEq, and_true, true_and, and_false, false_and, and_self, ite_true, ite_false, if_true, if_false, reduceIte, eq_self, not_true, not_false_eq_true, Bool.true_and, Bool.and_true, Bool.false_and, Bool.and_false, Bool.or_true, Bool.true_or, Bool.or_false, Bool.false_or, Bool.not_true, Bool.not_false, reduceCtorEq, upd_e, Nat.add_eq_zero_iff, Nat.add_right_cancel_iff, Nat.add_left_cancel_iff]
      rfl
    · rw [ha]
      simp only [mI_sI, mI_sL, mI_sP, mI_sA, mI_sB, mL_sI, mL_sL, mL_sP, mL_sA, mL_sB, mP_sI, mP_sL, mP_sP, mP_sA, mP_sB, mA_sI, mA_sL, mA_sP, mA_sAg, mA_sB, mB_sI, mB_sL, mB_sP, mB_sA, mB_sBg, mE_sI, mE_sL, mE_sP, mE_sA, mE_sB, Nat.reduceEqDiff, Nat.reduceAdd, Nat.reduceMul, Nat.reduceSub, Nat.reduceLT, Nat.reduceLeDiff, Nat.reduceDiv, Nat.reduceMod, Nat.reduceBEq, and_true, true_and, and_false, false_and, and_self, ite_true, ite_false, if_true, if_false, reduceIte, eq_self, not_true, not_false_eq_true, Bool.true_and, Bool.and_true, Bool.false_and, Bool.and_false, Bool.or_true, Bool.true_or, Bool.or_false, Bool.false_or, Bool.not_true, Bool.not_false, reduceCtorEq, upd_e, Nat.add_eq_zero_iff, Nat.add_right_cancel_iff, Nat.add_left_cancel_iff]
      rw [hw]
      show _ = vV (aN A) + nI (vin (cnt (aN A) 0)) + nI (vin (cnt (aN A) 1)) + nI (vin (cnt (aN A) 2))
      rw [Int32.add_assoc, Int32.add_assoc, nI_add, nI_add, Nat.add_assoc]
    · rw [ha]
      simp only [mI_sI, mI_sL, mI_sP, mI_sA, mI_sB, mL_sI, mL_sL, mL_sP, mL_sA, mL_sB, mP_sI, mP_sL, mP_sP, mP_sA, mP_sB, mA_sI, mA_sL, mA_sP, mA_sAg, mA_sB, mB_sI, mB_sL, mB_sP, mB_sA, mB_sBg, mE_sI, mE_sL, mE_sP, mE_sA, mE_sB, Nat.reduceEqDiff, Nat.reduceAdd, Nat.reduceMul, Nat.reduceSub, Nat.reduceLT, Nat.reduceLeDiff, Nat.reduceDiv, Nat.reduceMod, Nat.reduceBEq, and_true, true_and, and_false, false_and, and_self, ite_true, ite_false, if_true, if_false, reduceIte, eq_self, not_true, not_false_eq_true, Bool.true_and, Bool.and_true, Bool.false_and, Bool.and_false, Bool.or_true, Bool.true_or, Bool.or_false, Bool.false_or, Bool.not_true, Bool.not_false, reduceCtorEq, upd_e, Nat.add_eq_zero_iff, Nat.add_right_cancel_iff, Nat.add_left_cancel_iff]
      show _ = if vR (aN A) j < 3 then nI (vY (aN A) (vR (aN A) j) + 1) else 0
      have ek : 8 + j - 6 = 2 + j := by omega
      rw [ek, if_neg (show ¬ 2 + j = 0 by omega), if_neg (show ¬ 2 + j = 1 by omega), if_neg (show ¬ 8 + j = 1 by omega)]
      simp only [M_rowN ⟨n1, n2, n3, n4, n5, n6, n7⟩ hj]
      rw [n4 j hj]
      by_cases e5 : vR (aN A) j < 3
      · have hjT : j < iT (aI A) := by
          rcases Nat.lt_or_ge j (iT (aI A)) with q | q
          · exact q
          · have := (ok.2.2.1.2.2.1 j q).1; omega
        rw [if_pos ⟨by omega, by omega, fun q => q e5⟩, if_pos e5, if_pos e5, nI_1]
      · rw [if_neg (fun q => q.2.2 e5), if_neg e5, if_neg e5]
  refine ⟨nI (bs6 (leave (passN (aN A)) (iH (aI A)) 0)), σ2, τ2, ?_, ?_, wN (pushA A) (passN (aN A)), q, q2, okp, hC2, hM2⟩
  · have p1 : mP σ2 0 1 = q := hC2.1.2.2.2.2.1
    have p32 : mP σ2 0 3 = 4 := hC2.1.2.1
    have hh : mI σ2 q 0 = nI (iH (aI A)) := hC2.2.1.1
    have el := C_leave okp hC2 (l := 0) (by decide)
    have el : fX2_mayLeave σ2 4 (nI (iH (aI A))) (nI 0) = some (nI (bs6 (leave (passN (aN A)) (iH (aI A)) 0))) := el
    simp (disch := omega) only [fX5_day, stp_s, bd_s, bd2_s, gd_t, gd_in, clampN, fa_lit, ofN, nI_add, pk_mul, leN, ltN, eqN, eqNg, gNeq, gNlt, gNle, ltNg, leNg, gg, mI_sI, mI_sL, mI_sP, mI_sA, mI_sB, mL_sI, mL_sL, mL_sP, mL_sA, mL_sB, mP_sI, mP_sL, mP_sP, mP_sA, mP_sB, mA_sI, mA_sL, mA_sP, mA_sAg, mA_sB, mB_sI, mB_sL, mB_sP, mB_sA, mB_sBg, mE_sI, mE_sL, mE_sP, mE_sA, mE_sB, Nat.reduceEqDiff, Nat.reduceAdd, Nat.reduceMul, Nat.reduceSub, Nat.reduceLT, Nat.reduceLeDiff, Nat.reduceDiv, Nat.reduceMod, Nat.reduceBEq, and_true, true_and, and_false, false_and, and_self, ite_true, ite_false, if_true, if_false, reduceIte, eq_self, not_true, not_false_eq_true, Bool.true_and, Bool.and_true, Bool.false_and, Bool.and_false, Bool.or_true, Bool.true_or, Bool.or_false, Bool.false_or, Bool.not_true, Bool.not_false, reduceCtorEq, upd_e, Nat.add_eq_zero_iff, Nat.add_right_cancel_iff, Nat.add_left_cancel_iff, decide_true, decide_false, Bool.false_eq_true, decide_eq_true_eq, hP3, hP4, hN.1, hlt, e1, p3, e3, p1, p32, hh, el]
  · have el : fX6_leavers τ2 0 = some (nI (bs6 (leave (passN (aN A)) (iH (aI A)) 0))) := M_leavers hM2.1 okp.1 hM2.2.2.1 okp.2.2.1
    simp (disch := omega) only [fX6_day, stp_s, bd_s, bd2_s, gd_t, gd_in, clampN, fa_lit, ofN, nI_add, pk_mul, leN, ltN, eqN, eqNg, gNeq, gNlt, gNle, ltNg, leNg, gg, mI_sI, mI_sL, mI_sP, mI_sA, mI_sB, mL_sI, mL_sL, mL_sP, mL_sA, mL_sB, mP_sI, mP_sL, mP_sP, mP_sA, mP_sB, mA_sI, mA_sL, mA_sP, mA_sAg, mA_sB, mB_sI, mB_sL, mB_sP, mB_sA, mB_sBg, mE_sI, mE_sL, mE_sP, mE_sA, mE_sB, Nat.reduceEqDiff, Nat.reduceAdd, Nat.reduceMul, Nat.reduceSub, Nat.reduceLT, Nat.reduceLeDiff, Nat.reduceDiv, Nat.reduceMod, Nat.reduceBEq, and_true, true_and, and_false, false_and, and_self, ite_true, ite_false, if_true, if_false, reduceIte, eq_self, not_true, not_false_eq_true, Bool.true_and, Bool.and_true, Bool.false_and, Bool.and_false, Bool.or_true, Bool.true_or, Bool.or_false, Bool.false_or, Bool.not_true, Bool.not_false, reduceCtorEq, upd_e, Nat.add_eq_zero_iff, Nat.add_right_cancel_iff, Nat.add_left_cancel_iff, decide_true, decide_false, Bool.false_eq_true, decide_eq_true_eq, m0, e200, e2, ev, v1, v0]
    rw [e4, el]
    rfl
theorem goN_ok {N : NV} {T R t : Nat} (ok : NOK N T R) (ht : t < T) : NOK (goN N t) T R := by
  obtain ⟨h1, h2, h3, h4, h5, h6⟩ := ok
  refine ⟨h1, fun j hj => ?_, fun j hj => ?_, h4, h5, h6⟩
  · show (if j = t then 3 else vR N j) ≤ 3 ∧ ((if j = t then 3 else vR N j) < 3 → (if j = t then 3 else vR N j) < R)
    split
    · omega
    · exact h2 j hj
  · show (if j = t then 3 else vR N j) = 3 ∧ (vG N j || decide (j = t)) = false
    rw [if_neg (by omega), decide_eq_false (by omega), Bool.or_false]
    exact h3 j hj
theorem op_sails {σ τ : Mem} (h : Rel σ τ) (x1 : Int32) : ∃ (r : Int32) (σ' : Mem) (τ' : Mem), fX5_sails σ 0 x1 = some (r, σ') ∧ fX6_sails τ 0 x1 = some (r, τ') ∧ Rel σ' τ' := by
  obtain ⟨A, q, q2, ok, hC, hM⟩ := id h
  have hP1 : mP σ 0 1 = q := hC.1.2.2.2.2.1
  have hP3 : mP σ 0 3 = 4 := hC.1.2.1
  have hP4 : mP σ 0 4 = 5 := hC.1.2.2.1
  have hI := hC.2.1
  have hN := hC.2.2.2.1
  have hT := ok.1.2.2.2.1
  have hD := ok.2.2.1.1
  have m0 : mA τ 0 7 0 = nI (vD (aN A)) := hM.2.2.1.1
  rcases ix3 x1 (n := iT (aI A)) (by omega) with hx | ⟨t, ht, rfl⟩
  · refine ⟨-1, σ, τ, ?_, ?_, h⟩
    · simp (disch := omega) only [fX5_sails, hP1, C_hasT_no hI hx, stp_s, bd_s, bd2_s, gd_t, gd_in, clampN, fa_lit, ofN, nI_add, pk_mul, leN, ltN, eqN, eqNg, gNeq, gNlt, gNle, ltNg, leNg, gg, mI_sI, mI_sL, mI_sP, mI_sA, mI_sB, mL_sI, mL_sL, mL_sP, mL_sA, mL_sB, mP_sI, mP_sL, mP_sP, mP_sA, mP_sB, mA_sI, mA_sL, mA_sP, mA_sAg, mA_sB, mB_sI, mB_sL, mB_sP, mB_sA, mB_sBg, mE_sI, mE_sL, mE_sP, mE_sA, mE_sB, Nat.reduceEqDiff, Nat.reduceAdd, Nat.reduceMul, Nat.reduceSub, Nat.reduceLT, Nat.reduceLeDiff, Nat.reduceDiv, Nat.reduceMod, Nat.reduceBEq, and_true, true_and, and_false, false_and, and_self, ite_true, ite_false, if_true, if_false, reduceIte, eq_self, not_true, not_false_eq_true, Bool.true_and, Bool.and_true, Bool.false_and, Bool.and_false, Bool.or_true, Bool.true_or, Bool.or_false, Bool.false_or, Bool.not_true, Bool.not_false, reduceCtorEq, upd_e, Nat.add_eq_zero_iff, Nat.add_right_cancel_iff, Nat.add_left_cancel_iff, decide_true, decide_false, Bool.false_eq_true, decide_eq_true_eq]
    · simp (disch := omega) only [fX6_sails, M_isT_no hM.1 ok.1 hx, stp_s, bd_s, bd2_s, gd_t, gd_in, clampN, fa_lit, ofN, nI_add, pk_mul, leN, ltN, eqN, eqNg, gNeq, gNlt, gNle, ltNg, leNg, gg, mI_sI, mI_sL, mI_sP, mI_sA, mI_sB, mL_sI, mL_sL, mL_sP, mL_sA, mL_sB, mP_sI, mP_sL, mP_sP, mP_sA, mP_sB, mA_sI, mA_sL, mA_sP, mA_sAg, mA_sB, mB_sI, mB_sL, mB_sP, mB_sA, mB_sBg, mE_sI, mE_sL, mE_sP, mE_sA, mE_sB, Nat.reduceEqDiff, Nat.reduceAdd, Nat.reduceMul, Nat.reduceSub, Nat.reduceLT, Nat.reduceLeDiff, Nat.reduceDiv, Nat.reduceMod, Nat.reduceBEq, and_true, true_and, and_false, false_and, and_self, ite_true, ite_false, if_true, if_false, reduceIte, eq_self, not_true, not_false_eq_true, Bool.true_and, Bool.and_true, Bool.false_and, Bool.and_false, Bool.or_true, Bool.true_or, Bool.or_false, Bool.false_or, Bool.not_true, Bool.not_false, reduceCtorEq, upd_e, Nat.add_eq_zero_iff, Nat.add_right_cancel_iff, Nat.add_left_cancel_iff, decide_true, decide_false, Bool.false_eq_true, decide_eq_true_eq]
  have ht6 : t < 6 := by omega
  have el := C_leave ok hC (l := 0) (by decide)
  have eml := M_mayLeave hM.1 ok.1 hM.2.2.1 ok.2.2.1.2.2.2.1 hD ht6
  by_cases ev : leave (aN A) (iH (aI A)) 0 t = true
  rotate_left
  · refine ⟨-2, σ, τ, ?_, ?_, h⟩
    · simp (disch := omega) only [fX5_sails, fX5_sails_40, hP1, hP3, C_hasT_yes hI ok.1 ht, stp_s, bd_s, bd2_s, gd_t, gd_in, clampN, fa_lit, ofN, nI_add, pk_mul, leN, ltN, eqN, eqNg, gNeq, gNlt, gNle, ltNg, leNg, gg, mI_sI, mI_sL, mI_sP, mI_sA, mI_sB, mL_sI, mL_sL, mL_sP, mL_sA, mL_sB, mP_sI, mP_sL, mP_sP, mP_sA, mP_sB, mA_sI, mA_sL, mA_sP, mA_sAg, mA_sB, mB_sI, mB_sL, mB_sP, mB_sA, mB_sBg, mE_sI, mE_sL, mE_sP, mE_sA, mE_sB, Nat.reduceEqDiff, Nat.reduceAdd, Nat.reduceMul, Nat.reduceSub, Nat.reduceLT, Nat.reduceLeDiff, Nat.reduceDiv, Nat.reduceMod, Nat.reduceBEq, and_true, true_and, and_false, false_and, and_self, ite_true, ite_false, if_true, if_false, reduceIte, eq_self, not_true, not_false_eq_true, Bool.true_and, Bool.and_true, Bool.false_and, Bool.and_false, Bool.or_true, Bool.true_or, Bool.or_false, Bool.false_or, Bool.not_true, Bool.not_false, reduceCtorEq, upd_e, Nat.add_eq_zero_iff, Nat.add_right_cancel_iff, Nat.add_left_cancel_iff, decide_true, decide_false, Bool.false_eq_true, decide_eq_true_eq, hI.1, el, bs6_bitN _ ht6, ev]
    · simp (disch := omega) only [fX6_sails, M_isT_yes hM.1 ok.1 ht, eml, stp_s, bd_s, bd2_s, gd_t, gd_in, clampN, fa_lit, ofN, nI_add, pk_mul, leN, ltN, eqN, eqNg, gNeq, gNlt, gNle, ltNg, leNg, gg, mI_sI, mI_sL, mI_sP, mI_sA, mI_sB, mL_sI, mL_sL, mL_sP, mL_sA, mL_sB, mP_sI, mP_sL, mP_sP, mP_sA, mP_sB, mA_sI, mA_sL, mA_sP, mA_sAg, mA_sB, mB_sI, mB_sL, mB_sP, mB_sA, mB_sBg, mE_sI, mE_sL, mE_sP, mE_sA, mE_sB, Nat.reduceEqDiff, Nat.reduceAdd, Nat.reduceMul, Nat.reduceSub, Nat.reduceLT, Nat.reduceLeDiff, Nat.reduceDiv, Nat.reduceMod, Nat.reduceBEq, and_true, true_and, and_false, false_and, and_self, ite_true, ite_false, if_true, if_false, reduceIte, eq_self, not_true, not_false_eq_true, Bool.true_and, Bool.and_true, Bool.false_and, Bool.and_false, Bool.or_true, Bool.true_or, Bool.or_false, Bool.false_or, Bool.not_true, Bool.not_false, reduceCtorEq, upd_e, Nat.add_eq_zero_iff, Nat.add_right_cancel_iff, Nat.add_left_cancel_iff, decide_true, decide_false, Bool.false_eq_true, decide_eq_true_eq, ev]
  by_cases eb : vD (aN A) % iB (aI A) = 0
  rotate_left
  · refine ⟨-2, σ, τ, ?_, ?_, h⟩
    · simp (disch := omega) only [fX5_sails, fX5_sails_40, hP1, hP3, C_hasT_yes hI ok.1 ht, stp_s, bd_s, bd2_s, gd_t, gd_in, clampN, fa_lit, ofN, nI_add, pk_mul, leN, ltN, eqN, eqNg, gNeq, gNlt, gNle, ltNg, leNg, gg, mI_sI, mI_sL, mI_sP, mI_sA, mI_sB, mL_sI, mL_sL, mL_sP, mL_sA, mL_sB, mP_sI, mP_sL, mP_sP, mP_sA, mP_sB, mA_sI, mA_sL, mA_sP, mA_sAg, mA_sB, mB_sI, mB_sL, mB_sP, mB_sA, mB_sBg, mE_sI, mE_sL, mE_sP, mE_sA, mE_sB, Nat.reduceEqDiff, Nat.reduceAdd, Nat.reduceMul, Nat.reduceSub, Nat.reduceLT, Nat.reduceLeDiff, Nat.reduceDiv, Nat.reduceMod, Nat.reduceBEq, and_true, true_and, and_false, false_and, and_self, ite_true, ite_false, if_true, if_false, reduceIte, eq_self, not_true, not_false_eq_true, Bool.true_and, Bool.and_true, Bool.false_and, Bool.and_false, Bool.or_true, Bool.true_or, Bool.or_false, Bool.false_or, Bool.not_true, Bool.not_false, reduceCtorEq, upd_e, Nat.add_eq_zero_iff, Nat.add_right_cancel_iff, Nat.add_left_cancel_iff, decide_true, decide_false, Bool.false_eq_true, decide_eq_true_eq, hI.1, el, bs6_bitN _ ht6, ev, hN.1, C_boat hI ok.1, eb]
    · simp (disch := omega) only [fX6_sails, M_isT_yes hM.1 ok.1 ht, eml, stp_s, bd_s, bd2_s, gd_t, gd_in, clampN, fa_lit, ofN, nI_add, pk_mul, leN, ltN, eqN, eqNg, gNeq, gNlt, gNle, ltNg, leNg, gg, mI_sI, mI_sL, mI_sP, mI_sA, mI_sB, mL_sI, mL_sL, mL_sP, mL_sA, mL_sB, mP_sI, mP_sL, mP_sP, mP_sA, mP_sB, mA_sI, mA_sL, mA_sP, mA_sAg, mA_sB, mB_sI, mB_sL, mB_sP, mB_sA, mB_sBg, mE_sI, mE_sL, mE_sP, mE_sA, mE_sB, Nat.reduceEqDiff, Nat.reduceAdd, Nat.reduceMul, Nat.reduceSub, Nat.reduceLT, Nat.reduceLeDiff, Nat.reduceDiv, Nat.reduceMod, Nat.reduceBEq, and_true, true_and, and_false, false_and, and_self, ite_true, ite_false, if_true, if_false, reduceIte, eq_self, not_true, not_false_eq_true, Bool.true_and, Bool.and_true, Bool.false_and, Bool.and_false, Bool.or_true, Bool.true_or, Bool.or_false, Bool.false_or, Bool.not_true, Bool.not_false, reduceCtorEq, upd_e, Nat.add_eq_zero_iff, Nat.add_right_cancel_iff, Nat.add_left_cancel_iff, decide_true, decide_false, Bool.false_eq_true, decide_eq_true_eq, ev, m0, M_boat hM.1 ok.1, eb]
  obtain ⟨σ1, e1, hC1⟩ := C_rem ok hC
  obtain ⟨τ1, e2, hM1⟩ := M_rem ok hM
  have ok1 := pushA_ok ok
  have p3 : mP σ1 0 3 = 4 := hC1.1.2.1
  have hN1 : NC σ1 4 (aN A) := hC1.2.2.2.1
  obtain ⟨σ2, e3, n2, s2⟩ := hN1.letGo ht6
  have hC2 : CSq σ2 q q2 (wN (pushA A) (goN (aN A) t)) := hC1.now s2 n2
  have okp : AOK (wN (pushA A) (goN (aN A) t)) := by
    obtain ⟨o1, o2, o3, o4, o5, o6, o7⟩ := ok1
    exact ⟨o1, o2, goN_ok ok.2.2.1 ht, o4, o5, o6, o7⟩
  have hM1n : NM (mA τ1 0 7) (aN A) := hM1.2.2.1
  have hM2 : MS (sA (sA (sA τ1 0 7 (2 + t) (-nI 9)) 0 7 (8 + t) (nI 0)) 0 7 (14 + t) (nI 1)) (wN (pushA A) (goN (aN A) t)) := by
    refine hM1.now (by repeat (first | exact sameX.rf | refine sameX.sI ?_ (by first | rfl | exact Or.inl rfl | exact Or.inr rfl | trivial | decide | omega | simp) _ | refine sameX.sA ?_ (by first | rfl | exact Or.inl rfl | exact Or.inr rfl | trivial | decide | omega | simp) _ _ | refine sameX.sL ?_ (by first | rfl | exact Or.inl rfl | exact Or.inr rfl | trivial | decide | omega | simp) _ | refine sameX.sP ?_ (by first | rfl | exact Or.inl rfl | exact Or.inr rfl | trivial | decide | omega | simp) _ | refine sameX.sB ?_ (by first | rfl | exact Or.inl rfl | exact Or.inr rfl | trivial | decide | omega | simp) _ _)) ?_
    obtain ⟨n1, n2, n3, n4, n5, n6, n7⟩ := hM1n
    refine ⟨?_, ?_, fun j hj => ?_, fun j hj => ?_, fun j hj => ?_, ?_, fun i hi => ?_⟩
    · simp only [mI_sI, mI_sL, mI_sP, mI_sA, mI_sB, mL_sI, mL_sL, mL_sP, mL_sA, mL_sB, mP_sI, mP_sL, mP_sP, mP_sA, mP_sB, mA_sI, mA_sL, mA_sP, mA_sAg, mA_sB, mB_sI, mB_sL, mB_sP, mB_sA, mB_sBg, mE_sI, mE_sL, mE_sP, mE_sA, mE_sB, Nat.reduceEqDiff, Nat.reduceAdd, Nat.reduceMul, Nat.reduceSub, Nat.reduceLT, Nat.reduceLeDiff, Nat.reduceDiv, Nat.reduceMod, Nat.reduceBEq, and_true, true_and, and_false, false_and, and_self, ite_true, ite_false, if_true, if_false, reduceIte, eq_self, not_true, not_false_eq_true, Bool.true_and, Bool.and_true, Bool.false_and, Bool.and_false, Bool.or_true, Bool.true_or, Bool.or_false, Bool.false_or, Bool.not_true, Bool.not_false, reduceCtorEq, upd_e, Nat.add_eq_zero_iff, Nat.add_right_cancel_iff, Nat.add_left_cancel_iff]; rw [if_neg (by omega), if_neg (by omega), if_neg (by omega)]; exact n1
    · simp only [mI_sI, mI_sL, mI_sP, mI_sA, mI_sB, mL_sI, mL_sL, mL_sP, mL_sA, mL_sB, mP_sI, mP_sL, mP_sP, mP_sA, mP_sB, mA_sI, mA_sL, mA_sP, mA_sAg, mA_sB, mB_sI, mB_sL, mB_sP, mB_sA, mB_sBg, mE_sI, mE_sL, mE_sP, mE_sA, mE_sB, Nat.reduceEqDiff, Nat.reduceAdd, Nat.reduceMul, Nat.reduceSub, Nat.reduceLT, Nat.reduceLeDiff, Nat.reduceDiv, Nat.reduceMod, Nat.reduceBEq, and_true, true_and, and_false, false_and, and_self, ite_true, ite_false, if_true, if_false, reduceIte, eq_self, not_true, not_false_eq_true, Bool.true_and, Bool.and_true, Bool.false_and, Bool.and_false, Bool.or_true, Bool.true_or, Bool.or_false, Bool.false_or, Bool.not_true, Bool.not_false, reduceCtorEq, upd_e, Nat.add_eq_zero_iff, Nat.add_right_cancel_iff, Nat.add_left_cancel_iff]; rw [if_neg (by omega), if_neg (by omega), if_neg (by omega)]; exact n2
    · simp only [mI_sI, mI_sL, mI_sP, mI_sA, mI_sB, mL_sI, mL_sL, mL_sP, mL_sA, mL_sB, mP_sI, mP_sL, mP_sP, mP_sA, mP_sB, mA_sI, mA_sL, mA_sP, mA_sAg, mA_sB, mB_sI, mB_sL, mB_sP, mB_sA, mB_sBg, mE_sI, mE_sL, mE_sP, mE_sA, mE_sB, Nat.reduceEqDiff, Nat.reduceAdd, Nat.reduceMul, Nat.reduceSub, Nat.reduceLT, Nat.reduceLeDiff, Nat.reduceDiv, Nat.reduceMod, Nat.reduceBEq, and_true, true_and, and_false, false_and, and_self, ite_true, ite_false, if_true, if_false, reduceIte, eq_self, not_true, not_false_eq_true, Bool.true_and, Bool.and_true, Bool.false_and, Bool.and_false, Bool.or_true, Bool.true_or, Bool.or_false, Bool.false_or, Bool.not_true, Bool.not_false, reduceCtorEq, upd_e, Nat.add_eq_zero_iff, Nat.add_right_cancel_iff, Nat.add_left_cancel_iff]; rw [if_neg (by omega), if_neg (by omega)]
      show _ = if (if j = t then 3 else vR (aN A) j) < 3 then nI (if j = t then 3 else vR (aN A) j) else -9
      by_cases ej : j = t
      · subst ej; rw [if_pos rfl, if_pos rfl, if_neg (by decide)]; rfl
      · rw [if_neg (by omega), if_neg ej]; exact n3 j hj
    · simp only [mI_sI, mI_sL, mI_sP, mI_sA, mI_sB, mL_sI, mL_sL, mL_sP, mL_sA, mL_sB, mP_sI, mP_sL, mP_sP, mP_sA, mP_sB, mA_sI, mA_sL, mA_sP, mA_sAg, mA_sB, mB_sI, mB_sL, mB_sP, mB_sA, mB_sBg, mE_sI, mE_sL, mE_sP, mE_sA, mE_sB, Nat.reduceEqDiff, Nat.reduceAdd, Nat.reduceMul, Nat.reduceSub, Nat.reduceLT, Nat.reduceLeDiff, Nat.reduceDiv, Nat.reduceMod, Nat.reduceBEq, and_true, true_and, and_false, false_and, and_self, ite_true, ite_false, if_true, if_false, reduceIte, eq_self, not_true, not_false_eq_true, Bool.true_and, Bool.and_true, Bool.false_and, Bool.and_false, Bool.or_true, Bool.true_or, Bool.or_false, Bool.false_or, Bool.not_true, Bool.not_false, reduceCtorEq, upd_e, Nat.add_eq_zero_iff, Nat.add_right_cancel_iff, Nat.add_left_cancel_iff]; rw [if_neg (by omega), if_neg (show ¬ 8 + j = 2 + t by omega)]
      show _ = if (if j = t then 3 else vR (aN A) j) < 3 then nI (vY (aN A) (if j = t then 3 else vR (aN A) j)) else 0
      by_cases ej : j = t
      · subst ej; rw [if_pos rfl, if_pos rfl, if_neg (by decide)]; rfl
      · rw [if_neg (by omega), if_neg ej]; exact n4 j hj
    · simp only [mI_sI, mI_sL, mI_sP, mI_sA, mI_sB, mL_sI, mL_sL, mL_sP, mL_sA, mL_sB, mP_sI, mP_sL, mP_sP, mP_sA, mP_sB, mA_sI, mA_sL, mA_sP, mA_sAg, mA_sB, mB_sI, mB_sL, mB_sP, mB_sA, mB_sBg, mE_sI, mE_sL, mE_sP, mE_sA, mE_sB, Nat.reduceEqDiff, Nat.reduceAdd, Nat.reduceMul, Nat.reduceSub, Nat.reduceLT, Nat.reduceLeDiff, Nat.reduceDiv, Nat.reduceMod, Nat.reduceBEq, and_true, true_and, and_false, false_and, and_self, ite_true, ite_false, if_true, if_false, reduceIte, eq_self, not_true, not_false_eq_true, Bool.true_and, Bool.and_true, Bool.false_and, Bool.and_false, Bool.or_true, Bool.true_or, Bool.or_false, Bool.false_or, Bool.not_true, Bool.not_false, reduceCtorEq, upd_e, Nat.add_eq_zero_iff, Nat.add_right_cancel_iff, Nat.add_left_cancel_iff]; rw [if_neg (show ¬ 14 + j = 8 + t by omega), if_neg (show ¬ 14 + j = 2 + t by omega)]
      show _ = if (vG (aN A) j || decide (j = t)) = true then 1 else 0
      by_cases ej : j = t
      · subst ej; rw [if_pos rfl, decide_eq_true rfl, Bool.or_true, if_pos rfl]; rfl
      · rw [if_neg (by omega), decide_eq_false ej, Bool.or_false]; exact n5 j hj
    · simp only [mI_sI, mI_sL, mI_sP, mI_sA, mI_sB, mL_sI, mL_sL, mL_sP, mL_sA, mL_sB, mP_sI, mP_sL, mP_sP, mP_sA, mP_sB, mA_sI, mA_sL, mA_sP, mA_sAg, mA_sB, mB_sI, mB_sL, mB_sP, mB_sA, mB_sBg, mE_sI, mE_sL, mE_sP, mE_sA, mE_sB, Nat.reduceEqDiff, Nat.reduceAdd, Nat.reduceMul, Nat.reduceSub, Nat.reduceLT, Nat.reduceLeDiff, Nat.reduceDiv, Nat.reduceMod, Nat.reduceBEq, and_true, true_and, and_false, false_and, and_self, ite_true, ite_false, if_true, if_false, reduceIte, eq_self, not_true, not_false_eq_true, Bool.true_and, Bool.and_true, Bool.false_and, Bool.and_false, Bool.or_true, Bool.true_or, Bool.or_false, Bool.false_or, Bool.not_true, Bool.not_false, reduceCtorEq, upd_e, Nat.add_eq_zero_iff, Nat.add_right_cancel_iff, Nat.add_left_cancel_iff]; rw [if_neg (by omega), if_neg (by omega), if_neg (by omega)]; exact n6
    · simp only [mI_sI, mI_sL, mI_sP, mI_sA, mI_sB, mL_sI, mL_sL, mL_sP, mL_sA, mL_sB, mP_sI, mP_sL, mP_sP, mP_sA, mP_sB, mA_sI, mA_sL, mA_sP, mA_sAg, mA_sB, mB_sI, mB_sL, mB_sP, mB_sA, mB_sBg, mE_sI, mE_sL, mE_sP, mE_sA, mE_sB, Nat.reduceEqDiff, Nat.reduceAdd, Nat.reduceMul, Nat.reduceSub, Nat.reduceLT, Nat.reduceLeDiff, Nat.reduceDiv, Nat.reduceMod, Nat.reduceBEq, and_true, true_and, and_false, false_and, and_self, ite_true, ite_false, if_true, if_false, reduceIte, eq_self, not_true, not_false_eq_true, Bool.true_and, Bool.and_true, Bool.false_and, Bool.and_false, Bool.or_true, Bool.true_or, Bool.or_false, Bool.false_or, Bool.not_true, Bool.not_false, reduceCtorEq, upd_e, Nat.add_eq_zero_iff, Nat.add_right_cancel_iff, Nat.add_left_cancel_iff]; rw [if_neg (by omega), if_neg (by omega), if_neg (by omega)]; exact n7 i hi
  refine ⟨nI (ct6 (vG (goN (aN A) t))), σ2, sA (sA (sA τ1 0 7 (2 + t) (-nI 9)) 0 7 (8 + t) (nI 0)) 0 7 (14 + t) (nI 1), ?_, ?_, wN (pushA A) (goN (aN A) t), q, q2, okp, hC2, hM2⟩
  · have p32 : mP σ2 0 3 = 4 := hC2.1.2.1
    have g2 : mI σ2 4 2 = nI (bs6 (vG (goN (aN A) t))) := n2.2.2.1
    simp (disch := omega) only [fX5_sails, fX5_sails_40, hP1, hP3, hP4, C_hasT_yes hI ok.1 ht, stp_s, bd_s, bd2_s, gd_t, gd_in, clampN, fa_lit, ofN, nI_add, pk_mul, leN, ltN, eqN, eqNg, gNeq, gNlt, gNle, ltNg, leNg, gg, mI_sI, mI_sL, mI_sP, mI_sA, mI_sB, mL_sI, mL_sL, mL_sP, mL_sA, mL_sB, mP_sI, mP_sL, mP_sP, mP_sA, mP_sB, mA_sI, mA_sL, mA_sP, mA_sAg, mA_sB, mB_sI, mB_sL, mB_sP, mB_sA, mB_sBg, mE_sI, mE_sL, mE_sP, mE_sA, mE_sB, Nat.reduceEqDiff, Nat.reduceAdd, Nat.reduceMul, Nat.reduceSub, Nat.reduceLT, Nat.reduceLeDiff, Nat.reduceDiv, Nat.reduceMod, Nat.reduceBEq, and_true, true_and, and_false, false_and, and_self, ite_true, ite_false, if_true, if_false, reduceIte, eq_self, not_true, not_false_eq_true, Bool.true_and, Bool.and_true, Bool.false_and, Bool.and_false, Bool.or_true, Bool.true_or, Bool.or_false, Bool.false_or, Bool.not_true, Bool.not_false, reduceCtorEq, upd_e, Nat.add_eq_zero_iff, Nat.add_right_cancel_iff, Nat.add_left_cancel_iff, decide_true, decide_false, Bool.false_eq_true, decide_eq_true_eq, hI.1, el, bs6_bitN _ ht6, ev, hN.1, C_boat hI ok.1, eb, e1, p3, e3, p32, g2, bs6_ct]
  · have eg := M_gone hM2.1 okp.1 hM2.2.2.1 (fun t ht => (okp.2.2.1.2.2.1 t ht).2)
    have eg : fX6_goneSet (sA (sA (sA τ1 0 7 (2 + t) (-nI 9)) 0 7 (8 + t) (nI 0)) 0 7 (14 + t) (nI 1)) 0 = some (nI (bs6 (vG (goN (aN A) t)))) := eg
    simp (disch := omega) only [fX6_sails, M_isT_yes hM.1 ok.1 ht, eml, stp_s, bd_s, bd2_s, gd_t, gd_in, clampN, fa_lit, ofN, nI_add, pk_mul, leN, ltN, eqN, eqNg, gNeq, gNlt, gNle, ltNg, leNg, gg, mI_sI, mI_sL, mI_sP, mI_sA, mI_sB, mL_sI, mL_sL, mL_sP, mL_sA, mL_sB, mP_sI, mP_sL, mP_sP, mP_sA, mP_sB, mA_sI, mA_sL, mA_sP, mA_sAg, mA_sB, mB_sI, mB_sL, mB_sP, mB_sA, mB_sBg, mE_sI, mE_sL, mE_sP, mE_sA, mE_sB, Nat.reduceEqDiff, Nat.reduceAdd, Nat.reduceMul, Nat.reduceSub, Nat.reduceLT, Nat.reduceLeDiff, Nat.reduceDiv, Nat.reduceMod, Nat.reduceBEq, and_true, true_and, and_false, false_and, and_self, ite_true, ite_false, if_true, if_false, reduceIte, eq_self, not_true, not_false_eq_true, Bool.true_and, Bool.and_true, Bool.false_and, Bool.and_false, Bool.or_true, Bool.true_or, Bool.or_false, Bool.false_or, Bool.not_true, Bool.not_false, reduceCtorEq, upd_e, Nat.add_eq_zero_iff, Nat.add_right_cancel_iff, Nat.add_left_cancel_iff, decide_true, decide_false, Bool.false_eq_true, decide_eq_true_eq, ev, m0, M_boat hM.1 ok.1, eb, e2, eg, bs6_mb]
