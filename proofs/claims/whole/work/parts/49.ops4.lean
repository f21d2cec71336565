/-! keep, back, boat -/
theorem b2n_f : b2n false = 0 := rfl
theorem b2n_t : b2n true = 1 := rfl
theorem ite3 {α : Type} {x : Int32} {m : Nat} (hx : x < nI 0 ∨ nI m < x) {a b : α} : (if x < 0 then a else if x ≤ nI m then b else a) = a := by
  rcases hx with h | h
  · exact if_pos h
  · by_cases e : x < 0
    · exact if_pos e
    · rw [if_neg e, if_neg (Int32.not_le.mpr h)]
theorem im_or_k : ∀ (a b : Bool) (j : Fin 2), nI (b2n a + 2 * b2n b) ||| (nI 1 <<< (nI j.val &&& nI 31)) = nI (b2n (a || decide (j.val = 0)) + 2 * b2n (b || decide (j.val = 1))) := by decide +kernel
theorem im_or (a b : Bool) {j : Nat} (hj : j < 2) : nI (b2n a + 2 * b2n b) ||| (nI 1 <<< (nI j &&& nI 31)) = nI (b2n (a || decide (j = 0)) + 2 * b2n (b || decide (j = 1))) := im_or_k a b ⟨j, hj⟩
theorem im_bit_k : ∀ (a b : Bool) (j : Fin 2), (nI (b2n a + 2 * b2n b) >>> (nI j.val &&& nI 31)) &&& nI 1 = nI (b2n (if j.val = 0 then a else b)) := by decide +kernel
theorem M_keep13 {j : Nat} (hj : j < 2) : ∀ (d i n : Nat) (τ : Mem), i + d = 26 → d < n → ∃ τ', fX6_keep_13 0 n τ (nI j) (nI i) = some (mA τ 0 7 0, τ') ∧ (∀ k, mA τ' 0 10 k = if 26 * j + i ≤ k ∧ k < 26 * j + 26 then mA τ 0 7 (k - 26 * j) else mA τ 0 10 k) ∧ (∀ k, mA τ' 0 11 k = if k = j then nI 1 else mA τ 0 11 k) ∧ sameX (fun _ k => k = 10 ∨ k = 11) τ τ' := by
  intro d
  induction d with
  | zero =>
    intro i n τ hi hn
    obtain ⟨n, rfl⟩ : ∃ m, n = m + 1 := ⟨n - 1, by omega⟩
    refine ⟨sA τ 0 11 j (nI 1), ?_, fun k => ?_, fun k => ?_, by repeat (first | exact sameX.rf | refine sameX.sI ?_ (by first | rfl | exact Or.inl rfl | exact Or.inr rfl | trivial | decide | omega | simp) _ | refine sameX.sA ?_ (by first | rfl | exact Or.inl rfl | exact Or.inr rfl | trivial | decide | omega | simp) _ _ | refine sameX.sL ?_ (by first | rfl | exact Or.inl rfl | exact Or.inr rfl | trivial | decide | omega | simp) _ | refine sameX.sP ?_ (by first | rfl | exact Or.inl rfl | exact Or.inr rfl | trivial | decide | omega | simp) _ | refine sameX.sB ?_ (by first | rfl | exact Or.inl rfl | exact Or.inr rfl | trivial | decide | omega | simp) _ _)⟩
    · simp (disch := omega) only [fX6_keep_13, stp_s, bd_s, bd2_s, gd_t, gd_in, clampN, fa_lit, ofN, nI_add, pk_mul, leN, ltN, eqN, eqNg, gNeq, gNlt, gNle, ltNg, leNg, gg, mI_sI, mI_sL, mI_sP, mI_sA, mI_sB, mL_sI, mL_sL, mL_sP, mL_sA, mL_sB, mP_sI, mP_sL, mP_sP, mP_sA, mP_sB, mA_sI, mA_sL, mA_sP, mA_sAg, mA_sB, mB_sI, mB_sL, mB_sP, mB_sA, mB_sBg, mE_sI, mE_sL, mE_sP, mE_sA, mE_sB, Nat.reduceEqDiff, Nat.reduceAdd, Nat.reduceMul, Nat.reduceSub, Nat.reduceLT, Nat.reduceLeDiff, Nat.reduceDiv, Nat.reduceMod, Nat.reduceBEq, and_true, true_and, and_false, false_and, and_self, ite_true, ite_false, if_true, if_false, reduceIte, eq_self, not_true, not_false_eq_true, Bool.true_and, Bool.and_true, Bool.false_and, Bool.and_false, Bool.or_true, Bool.true_or, Bool.or_false, Bool.false_or, Bool.not_true, Bool.not_false, reduceCtorEq, upd_e, Nat.add_eq_zero_iff, Nat.add_right_cancel_iff, Nat.add_left_cancel_iff, decide_true, decide_false, Bool.false_eq_true, decide_eq_true_eq, show 26 ≤ i by omega]
    · simp only [mI_sI, mI_sL, mI_sP, mI_sA, mI_sB, mL_sI, mL_sL, mL_sP, mL_sA, mL_sB, mP_sI, mP_sL, mP_sP, mP_sA, mP_sB, mA_sI, mA_sL, mA_sP, mA_sAg, mA_sB, mB_sI, mB_sL, mB_sP, mB_sA, mB_sBg, mE_sI, mE_sL, mE_sP, mE_sA, mE_sB, Nat.reduceEqDiff, Nat.reduceAdd, Nat.reduceMul, Nat.reduceSub, Nat.reduceLT, Nat.reduceLeDiff, Nat.reduceDiv, Nat.reduceMod, Nat.reduceBEq, and_true, true_and, and_false, false_and, and_self, ite_true, ite_false, if_true, if_false, reduceIte, eq_self, not_true, not_false_eq_true, Bool.true_and, Bool.and_true, Bool.false_and, Bool.and_false, Bool.or_true, Bool.true_or, Bool.or_false, Bool.false_or, Bool.not_true, Bool.not_false, reduceCtorEq, upd_e, Nat.add_eq_zero_iff, Nat.add_right_cancel_iff, Nat.add_left_cancel_iff]
      rw [if_neg (by omega)]
    · simp only [mI_sI, mI_sL, mI_sP, mI_sA, mI_sB, mL_sI, mL_sL, mL_sP, mL_sA, mL_sB, mP_sI, mP_sL, mP_sP, mP_sA, mP_sB, mA_sI, mA_sL, mA_sP, mA_sAg, mA_sB, mB_sI, mB_sL, mB_sP, mB_sA, mB_sBg, mE_sI, mE_sL, mE_sP, mE_sA, mE_sB, Nat.reduceEqDiff, Nat.reduceAdd, Nat.reduceMul, Nat.reduceSub, Nat.reduceLT, Nat.reduceLeDiff, Nat.reduceDiv, Nat.reduceMod, Nat.reduceBEq, and_true, true_and, and_false, false_and, and_self, ite_true, ite_false, if_true, if_false, reduceIte, eq_self, not_true, not_false_eq_true, Bool.true_and, Bool.and_true, Bool.false_and, Bool.and_false, Bool.or_true, Bool.true_or, Bool.or_false, Bool.false_or, Bool.not_true, Bool.not_false, reduceCtorEq, upd_e, Nat.add_eq_zero_iff, Nat.add_right_cancel_iff, Nat.add_left_cancel_iff]
  | succ d ih =>
    intro i n τ hi hn
    obtain ⟨n, rfl⟩ : ∃ m, n = m + 1 := ⟨n - 1, by omega⟩
    obtain ⟨τ', e, ha, hb, hs⟩ := ih (i + 1) n (sA τ 0 10 (26 * j + i) (mA τ 0 7 i)) (by omega) (by omega)
    refine ⟨τ', ?_, fun k => ?_, fun k => ?_, sameX.tr (by repeat (first | exact sameX.rf | refine sameX.sI ?_ (by first | rfl | exact Or.inl rfl | exact Or.inr rfl | trivial | decide | omega | simp) _ | refine sameX.sA ?_ (by first | rfl | exact Or.inl rfl | exact Or.inr rfl | trivial | decide | omega | simp) _ _ | refine sameX.sL ?_ (by first | rfl | exact Or.inl rfl | exact Or.inr rfl | trivial | decide | omega | simp) _ | refine sameX.sP ?_ (by first | rfl | exact Or.inl rfl | exact Or.inr rfl | trivial | decide | omega | simp) _ | refine sameX.sB ?_ (by first | rfl | exact Or.inl rfl | exact Or.inr rfl | trivial | decide | omega | simp) _ _)) hs⟩
    · simp (disch := omega) only [fX6_keep_13, stp_s, bd_s, bd2_s, gd_t, gd_in, clampN, fa_lit, ofN, nI_add, pk_mul, leN, ltN, eqN, eqNg, gNeq, gNlt, gNle, ltNg, leNg, gg, mI_sI, mI_sL, mI_sP, mI_sA, mI_sB, mL_sI, mL_sL, mL_sP, mL_sA, mL_sB, mP_sI, mP_sL, mP_sP, mP_sA, mP_sB, mA_sI, mA_sL, mA_sP, mA_sAg, mA_sB, mB_sI, mB_sL, mB_sP, mB_sA, mB_sBg, mE_sI, mE_sL, mE_sP, mE_sA, mE_sB, Nat.reduceEqDiff, Nat.reduceAdd, Nat.reduceMul, Nat.reduceSub, Nat.reduceLT, Nat.reduceLeDiff, Nat.reduceDiv, Nat.reduceMod, Nat.reduceBEq, and_true, true_and, and_false, false_and, and_self, ite_true, ite_false, if_true, if_false, reduceIte, eq_self, not_true, not_false_eq_true, Bool.true_and, Bool.and_true, Bool.false_and, Bool.and_false, Bool.or_true, Bool.true_or, Bool.or_false, Bool.false_or, Bool.not_true, Bool.not_false, reduceCtorEq, upd_e, Nat.add_eq_zero_iff, Nat.add_right_cancel_iff, Nat.add_left_cancel_iff, decide_true, decide_false, Bool.false_eq_true, decide_eq_true_eq, show ¬ 26 ≤ i by omega]
      exact e
    · rw [ha k]
      simp only [mI_sI, mI_sL, mI_sP, mI_sA, mI_sB, mL_sI, mL_sL, mL_sP, mL_sA, mL_sB, mP_sI, mP_sL, mP_sP, mP_sA, mP_sB, mA_sI, mA_sL, mA_sP, mA_sAg, mA_sB, mB_sI, mB_sL, mB_sP, mB_sA, mB_sBg, mE_sI, mE_sL, mE_sP, mE_sA, mE_sB, Nat.reduceEqDiff, Nat.reduceAdd, Nat.reduceMul, Nat.reduceSub, Nat.reduceLT, Nat.reduceLeDiff, Nat.reduceDiv, Nat.reduceMod, Nat.reduceBEq, and_true, true_and, and_false, false_and, and_self, ite_true, ite_false, if_true, if_false, reduceIte, eq_self, not_true, not_false_eq_true, Bool.true_and, Bool.and_true, Bool.false_and, Bool.and_false, Bool.or_true, Bool.true_or, Bool.or_false, Bool.false_or, Bool.not_true, Bool.not_false, reduceCtorEq, upd_e, Nat.add_eq_zero_iff, Nat.add_right_cancel_iff, Nat.add_left_cancel_iff]
      by_cases e1 : 26 * j + (i + 1) ≤ k ∧ k < 26 * j + 26
      · rw [if_pos e1, if_pos (by omega)]
      · rw [if_neg e1]
        by_cases e2 : k = 26 * j + i
        · rw [if_pos e2, if_pos (by omega), e2, Nat.add_sub_cancel_left]
        · rw [if_neg e2, if_neg (by omega)]
    · rw [hb k]
      simp only [mI_sI, mI_sL, mI_sP, mI_sA, mI_sB, mL_sI, mL_sL, mL_sP, mL_sA, mL_sB, mP_sI, mP_sL, mP_sP, mP_sA, mP_sB, mA_sI, mA_sL, mA_sP, mA_sAg, mA_sB, mB_sI, mB_sL, mB_sP, mB_sA, mB_sBg, mE_sI, mE_sL, mE_sP, mE_sA, mE_sB, Nat.reduceEqDiff, Nat.reduceAdd, Nat.reduceMul, Nat.reduceSub, Nat.reduceLT, Nat.reduceLeDiff, Nat.reduceDiv, Nat.reduceMod, Nat.reduceBEq, and_true, true_and, and_false, false_and, and_self, ite_true, ite_false, if_true, if_false, reduceIte, eq_self, not_true, not_false_eq_true, Bool.true_and, Bool.and_true, Bool.false_and, Bool.and_false, Bool.or_true, Bool.true_or, Bool.or_false, Bool.false_or, Bool.not_true, Bool.not_false, reduceCtorEq, upd_e, Nat.add_eq_zero_iff, Nat.add_right_cancel_iff, Nat.add_left_cancel_iff]
theorem M_back25 {j : Nat} (hj : j < 2) : ∀ (d i n : Nat) (τ : Mem), i + d = 26 → d < n → ∃ τ', fX6_back_25 0 n τ (nI j) (nI i) = some (mA τ' 0 7 0, τ') ∧ (∀ k, k < 26 → mA τ' 0 7 k = if i ≤ k then mA τ 0 10 (26 * j + k) else mA τ 0 7 k) ∧ mI τ' 0 9 = nI 0 ∧ sameX (fun _ k => k = 7 ∨ k = 9) τ τ' := by
  intro d
  induction d with
  | zero =>
    intro i n τ hi hn
    obtain ⟨n, rfl⟩ : ∃ m, n = m + 1 := ⟨n - 1, by omega⟩
    refine ⟨sI τ 0 9 (nI 0), ?_, fun k hk => ?_, ?_, by repeat (first | exact sameX.rf | refine sameX.sI ?_ (by first | rfl | exact Or.inl rfl | exact Or.inr rfl | trivial | decide | omega | simp) _ | refine sameX.sA ?_ (by first | rfl | exact Or.inl rfl | exact Or.inr rfl | trivial | decide | omega | simp) _ _ | refine sameX.sL ?_ (by first | rfl | exact Or.inl rfl | exact Or.inr rfl | trivial | decide | omega | simp) _ | refine sameX.sP ?_ (by first | rfl | exact Or.inl rfl | exact Or.inr rfl | trivial | decide | omega | simp) _ | refine sameX.sB ?_ (by first | rfl | exact Or.inl rfl | exact Or.inr rfl | trivial | decide | omega | simp) _ _)⟩
    · simp (disch := omega) only [fX6_back_25, stp_s, bd_s, bd2_s, gd_t, gd_in, clampN, fa_lit, ofN, nI_add, pk_mul, leN, ltN, eqN, eqNg, gNeq, gNlt, gNle, ltNg, leNg, gg, mI_sI, mI_sL, mI_sP, mI_sA, mI_sB, mL_sI, mL_sL, mL_sP, mL_sA, mL_sB, mP_sI, mP_sL, mP_sP, mP_sA, mP_sB, mA_sI, mA_sL, mA_sP, mA_sAg, mA_sB, mB_sI, mB_sL, mB_sP, mB_sA, mB_sBg, mE_sI, mE_sL, mE_sP, mE_sA, mE_sB, Nat.reduceEqDiff, Nat.reduceAdd, Nat.reduceMul, Nat.reduceSub, Nat.reduceLT, Nat.reduceLeDiff, Nat.reduceDiv, Nat.reduceMod, Nat.reduceBEq, and_true, true_and, and_false, false_and, and_self, ite_true, ite_false, if_true, if_false, reduceIte, eq_self, not_true, not_false_eq_true, Bool.true_and, Bool.and_true, Bool.false_and, Bool.and_false, Bool.or_true, Bool.true_or, Bool.or_false, Bool.false_or, Bool.not_true, Bool.not_false, reduceCtorEq, upd_e, Nat.add_eq_zero_iff, Nat.add_right_cancel_iff, Nat.add_left_cancel_iff, decide_true, decide_false, Bool.false_eq_true, decide_eq_true_eq, show 26 ≤ i by omega]
    · simp only [mI_sI, mI_sL, mI_sP, mI_sA, mI_sB, mL_sI, mL_sL, mL_sP, mL_sA, mL_sB, mP_sI, mP_sL, mP_sP, mP_sA, mP_sB, mA_sI, mA_sL, mA_sP, mA_sAg, mA_sB, mB_sI, mB_sL, mB_sP, mB_sA, mB_sBg, mE_sI, mE_sL, mE_sP, mE_sA, mE_sB, Nat.reduceEqDiff, Nat.reduceAdd, Nat.reduceMul, Nat.reduceSub, Nat.reduceLT, Nat.reduceLeDiff, Nat.reduceDiv, Nat.reduceMod, Nat.reduceBEq, and_true, true_and, and_false, false_and, and_self, ite_true, ite_false, if_true, if_false, reduceIte, eq_self, not_true, not_false_eq_true, Bool.true_and, Bool.and_true, Bool.false_and, Bool.and_false, Bool.or_true, Bool.true_or, Bool.or_false, Bool.false_or, Bool.not_true, Bool.not_false, reduceCtorEq, upd_e, Nat.add_eq_zero_iff, Nat.add_right_cancel_iff, Nat.add_left_cancel_iff]
      rw [if_neg (by omega)]
    · simp only [mI_sI, mI_sL, mI_sP, mI_sA, mI_sB, mL_sI, mL_sL, mL_sP, mL_sA, mL_sB, mP_sI, mP_sL, mP_sP, mP_sA, mP_sB, mA_sI, mA_sL, mA_sP, mA_sAg, mA_sB, mB_sI, mB_sL, mB_sP, mB_sA, mB_sBg, mE_sI, mE_sL, mE_sP, mE_sA, mE_sB, Nat.reduceEqDiff, Nat.reduceAdd, Nat.reduceMul, Nat.reduceSub, Nat.reduceLT, Nat.reduceLeDiff, Nat.reduceDiv, Nat.reduceMod, Nat.reduceBEq, and_true, true_and, and_false, false_and, and_self, ite_true, ite_false, if_true, if_false, reduceIte, eq_self, not_true, not_false_eq_true, Bool.true_and, Bool.and_true, Bool.false_and, Bool.and_false, Bool.or_true, Bool.true_or, Bool.or_false, Bool.false_or, Bool.not_true, Bool.not_false, reduceCtorEq, upd_e, Nat.add_eq_zero_iff, Nat.add_right_cancel_iff, Nat.add_left_cancel_iff]
  | succ d ih =>
    intro i n τ hi hn
    obtain ⟨n, rfl⟩ : ∃ m, n = m + 1 := ⟨n - 1, by omega⟩
    obtain ⟨τ', e, ha, hb, hs⟩ := ih (i + 1) n (sA τ 0 7 i (mA τ 0 10 (26 * j + i))) (by omega) (by omega)
    refine ⟨τ', ?_, fun k hk => ?_, hb, sameX.tr (by repeat (first | exact sameX.rf | refine sameX.sI ?_ (by first | rfl | exact Or.inl rfl | exact Or.inr rfl | trivial | decide | omega | simp) _ | refine sameX.sA ?_ (by first | rfl | exact Or.inl rfl | exact Or.inr rfl | trivial | decide | omega | simp) _ _ | refine sameX.sL ?_ (by first | rfl | exact Or.inl rfl | exact Or.inr rfl | trivial | decide | omega | simp) _ | refine sameX.sP ?_ (by first | rfl | exact Or.inl rfl | exact Or.inr rfl | trivial | decide | omega | simp) _ | refine sameX.sB ?_ (by first | rfl | exact Or.inl rfl | exact Or.inr rfl | trivial | decide | omega | simp) _ _)) hs⟩
    · simp (disch := omega) only [fX6_back_25, stp_s, bd_s, bd2_s, gd_t, gd_in, clampN, fa_lit, ofN, nI_add, pk_mul, leN, ltN, eqN, eqNg, gNeq, gNlt, gNle, ltNg, leNg, gg, mI_sI, mI_sL, mI_sP, mI_sA, mI_sB, mL_sI, mL_sL, mL_sP, mL_sA, mL_sB, mP_sI, mP_sL, mP_sP, mP_sA, mP_sB, mA_sI, mA_sL, mA_sP, mA_sAg, mA_sB, mB_sI, mB_sL, mB_sP, mB_sA, mB_sBg, mE_sI, mE_sL, mE_sP, mE_sA, mE_sB, Nat.reduceEqDiff, Nat.reduceAdd, Nat.reduceMul, Nat.reduceSub, Nat.reduceLT, Nat.reduceLeDiff, Nat.reduceDiv, Nat.reduceMod, Nat.reduceBEq, and_true, true_and, and_false, false_and, and_self, ite_true, ite_false, if_true, if_false, reduceIte, eq_self, not_true, not_false_eq_true, Bool.true_and, Bool.and_true, Bool.false_and, Bool.and_false, Bool.or_true, Bool.true_or, Bool.or_false, Bool.false_or, Bool.not_true, Bool.not_false, reduceCtorEq, upd_e, Nat.add_eq_zero_iff, Nat.add_right_cancel_iff, Nat.add_left_cancel_iff, decide_true, decide_false, Bool.false_eq_true, decide_eq_true_eq, show ¬ 26 ≤ i by omega]
      exact e
    · rw [ha k hk]
      simp only [mI_sI, mI_sL, mI_sP, mI_sA, mI_sB, mL_sI, mL_sL, mL_sP, mL_sA, mL_sB, mP_sI, mP_sL, mP_sP, mP_sA, mP_sB, mA_sI, mA_sL, mA_sP, mA_sAg, mA_sB, mB_sI, mB_sL, mB_sP, mB_sA, mB_sBg, mE_sI, mE_sL, mE_sP, mE_sA, mE_sB, Nat.reduceEqDiff, Nat.reduceAdd, Nat.reduceMul, Nat.reduceSub, Nat.reduceLT, Nat.reduceLeDiff, Nat.reduceDiv, Nat.reduceMod, Nat.reduceBEq, and_true, true_and, and_false, false_and, and_self, ite_true, ite_false, if_true, if_false, reduceIte, eq_self, not_true, not_false_eq_true, Bool.true_and, Bool.and_true, Bool.false_and, Bool.and_false, Bool.or_true, Bool.true_or, Bool.or_false, Bool.false_or, Bool.not_true, Bool.not_false, reduceCtorEq, upd_e, Nat.add_eq_zero_iff, Nat.add_right_cancel_iff, Nat.add_left_cancel_iff]
      by_cases e1 : i + 1 ≤ k
      · rw [if_pos e1, if_pos (by omega)]
      · rw [if_neg e1]
        by_cases e2 : k = i
        · rw [if_pos e2, if_pos (by omega), e2]
        · rw [if_neg e2, if_neg (by omega)]
def putM (M : MV) (j : Nat) (N : NV) : MV := fun i => if i = j then some N else M i
theorem putM_e {M : MV} {j i : Nat} {N : NV} (h : i = j) : putM M j N i = some N := if_pos h
theorem putM_n {M : MV} {j i : Nat} {N : NV} (h : ¬ i = j) : putM M j N i = M i := if_neg h
theorem putM_s {M : MV} {j i : Nat} {N : NV} : (putM M j N i).isSome = ((M i).isSome || decide (j = i)) := by
  by_cases e : i = j
  · rw [putM_e e, decide_eq_true e.symm, Bool.or_true, Option.isSome_some]
  · rw [putM_n e, decide_eq_false (fun q => e q.symm), Bool.or_false]
theorem C_keep {σ : Mem} {q q2 : Nat} {A : AS} (hC : CSq σ q q2 A) {j : Nat} (hj : j < 2) : ∃ σ', fX5_keep σ 0 (nI j) = some (nI (vD (aN A)), σ') ∧ CSq σ' q q2 (wM A (putM (aM A) j (aN A))) := by
  have hP3 : mP σ 0 3 = 4 := hC.1.2.1
  obtain ⟨h1, h2, h3, h4, ⟨i6, im⟩, h6, h7, h8⟩ := id hC
  have hq := hC.q
  have hE : mE σ 0 5 j = 7 + j := h1.2.2.2.2.2.2.2.1 j hj
  obtain ⟨σ1, e1, n1, s1⟩ := h4.becomeAs (o := 7 + j) (by omega)
  have k6 : mI σ1 0 6 = nI (b2n (aM A 0).isSome + 2 * b2n (aM A 1).isSome) := by rw [(s1 0 6 (by omega)).1]; exact i6
  have p3 : mP σ1 0 3 = 4 := by rw [(s1 0 3 (by omega)).2.2.1]; exact hP3
  have d0 : mI σ1 4 0 = nI (vD (aN A)) := by rw [(s1 4 0 (by omega)).1]; exact h4.1
  have kor := im_or (aM A 0).isSome (aM A 1).isSome hj
  generalize hv : nI (b2n ((aM A 0).isSome || decide (j = 0)) + 2 * b2n ((aM A 1).isSome || decide (j = 1))) = v at kor
  have hs : sameX (fun o k => o = 7 + j ∨ (o = 0 ∧ k = 6)) σ (sI σ1 0 6 v) := (s1.mono (F' := fun o k => o = 7 + j ∨ (o = 0 ∧ k = 6)) (fun o k h => Or.inl h)).sI (Or.inr ⟨rfl, rfl⟩) _
  refine ⟨sI σ1 0 6 v, ?_, h1.keep hs (fun k hk => ?_) ⟨by omega, by omega⟩, h2.keep hs (fun k => by omega), h3.keep hs ⟨by omega, by omega⟩, h4.keep hs (fun k => by omega), ⟨?_, fun i hi N hN => ?_⟩, h6.keep hs ⟨by omega, by omega⟩ (fun i hi k => by omega), h7.keep hs ⟨by omega, by omega, by omega⟩, by rw [(hs 0 13 (by omega)).2.1]; exact h8⟩
  · simp (disch := omega) only [fX5_keep, stp_s, bd_s, bd2_s, gd_t, gd_in, clampN, fa_lit, ofN, nI_add, pk_mul, leN, ltN, eqN, eqNg, gNeq, gNlt, gNle, ltNg, leNg, gg, mI_sI, mI_sL, mI_sP, mI_sA, mI_sB, mL_sI, mL_sL, mL_sP, mL_sA, mL_sB, mP_sI, mP_sL, mP_sP, mP_sA, mP_sB, mA_sI, mA_sL, mA_sP, mA_sAg, mA_sB, mB_sI, mB_sL, mB_sP, mB_sA, mB_sBg, mE_sI, mE_sL, mE_sP, mE_sA, mE_sB, Nat.reduceEqDiff, Nat.reduceAdd, Nat.reduceMul, Nat.reduceSub, Nat.reduceLT, Nat.reduceLeDiff, Nat.reduceDiv, Nat.reduceMod, Nat.reduceBEq, and_true, true_and, and_false, false_and, and_self, ite_true, ite_false, if_true, if_false, reduceIte, eq_self, not_true, not_false_eq_true, Bool.true_and, Bool.and_true, Bool.false_and, Bool.and_false, Bool.or_true, Bool.true_or, Bool.or_false, Bool.false_or, Bool.not_true, Bool.not_false, reduceCtorEq, upd_e, Nat.add_eq_zero_iff, Nat.add_right_cancel_iff, Nat.add_left_cancel_iff, decide_true, decide_false, Bool.false_eq_true, decide_eq_true_eq, show ¬ j < 0 by omega, hj, hP3, hE, e1, k6, kor, p3, d0]
  · exact (s1 0 k (by omega)).2.2.1
  · show mI _ 0 6 = nI (b2n (putM (aM A) j (aN A) 0).isSome + 2 * b2n (putM (aM A) j (aN A) 1).isSome)
    rw [putM_s, putM_s, hv, mI_sI, if_pos ⟨rfl, rfl⟩]
  · have hN : putM (aM A) j (aN A) i = some N := hN
    by_cases ei : i = j
    · rw [putM_e ei] at hN
      cases hN
      rw [ei]
      exact n1.keep (F := fun o k => o = 0 ∧ k = 6) (by repeat (first | exact sameX.rf | refine sameX.sI ?_ (by first | rfl | exact Or.inl rfl | exact Or.inr rfl | trivial | decide | omega | simp) _ | refine sameX.sA ?_ (by first | rfl | exact Or.inl rfl | exact Or.inr rfl | trivial | decide | omega | simp) _ _ | refine sameX.sL ?_ (by first | rfl | exact Or.inl rfl | exact Or.inr rfl | trivial | decide | omega | simp) _ | refine sameX.sP ?_ (by first | rfl | exact Or.inl rfl | exact Or.inr rfl | trivial | decide | omega | simp) _ | refine sameX.sB ?_ (by first | rfl | exact Or.inl rfl | exact Or.inr rfl | trivial | decide | omega | simp) _ _)) (fun k => by omega)
    · rw [putM_n ei] at hN
      exact (im i hi N hN).keep hs (fun k => by omega)
theorem M_keep {τ : Mem} {A : AS} (ok : AOK A) (hM : MS τ A) {j : Nat} (hj : j < 2) : ∃ τ', fX6_keep τ 0 (nI j) = some (nI (vD (aN A)), τ') ∧ MS τ' (wM A (putM (aM A) j (aN A))) := by
  obtain ⟨τ', e2, a2, b2, s2⟩ := M_keep13 (j := j) hj 26 0 FU τ (by omega) (by decide)
  have m0 : mA τ 0 7 0 = nI (vD (aN A)) := hM.2.2.1.1
  obtain ⟨g1, g2, g3, ⟨g41, g42⟩, g5, g6, g7⟩ := id hM
  refine ⟨τ', ?_, g1.keep s2 (fun k hk => by omega), g2.keep s2 ⟨by omega, by omega⟩, by rw [(s2 0 7 (by omega)).2.2.2.1]; exact g3, ⟨fun i hi => ?_, fun i hi N hN => ?_⟩, g5.keep s2 ⟨by omega, by omega⟩, g6.keep s2 (fun k _ _ => by omega), by rw [(s2 0 16 (by omega)).2.1]; exact g7⟩
  · unfold fX6_keep
    rw [l0, l1, inr_yes (Nat.zero_le j) (by omega) (by decide), bd_s, if_neg (by decide), e2, m0]
  · rw [b2 i]
    show _ = if (putM (aM A) j (aN A) i).isSome = true then 1 else 0
    by_cases ei : i = j
    · rw [if_pos ei, putM_e ei, Option.isSome_some, if_pos rfl, l1]
    · rw [if_neg ei, putM_n ei]; exact g41 i hi
  · have hN : putM (aM A) j (aN A) i = some N := hN
    by_cases ei : i = j
    · rw [putM_e ei] at hN
      cases hN
      refine g3.of (fun k hk => ?_) ok.2.2.1.2.2.2.2.1
      rw [a2, if_pos (by omega), ei, Nat.add_sub_cancel_left]
    · rw [putM_n ei] at hN
      refine (g42 i hi N hN).of (fun k hk => ?_) (ok.2.2.2.1 i hi N hN).2.2.2.2.1
      rw [a2, if_neg (by omega)]
theorem op_keep {σ τ : Mem} (h : Rel σ τ) (x1 : Int32) : ∃ (r : Int32) (σ' : Mem) (τ' : Mem), fX5_keep σ 0 x1 = some (r, σ') ∧ fX6_keep τ 0 x1 = some (r, τ') ∧ Rel σ' τ' := by
  obtain ⟨A, q, q2, ok, hC, hM⟩ := id h
  rcases pk_rng x1 (a := 0) (b := 1) (by decide) (by decide) with hx | ⟨j, -, hj, rfl⟩
  · refine ⟨-1, σ, τ, ite2 (m := 1) (by decide) hx, ?_, h⟩
    simp (disch := omega) only [fX6_keep, stp_s, bd_s, bd2_s, gd_t, gd_in, clampN, fa_lit, ofN, nI_add, pk_mul, leN, ltN, eqN, eqNg, gNeq, gNlt, gNle, ltNg, leNg, gg, mI_sI, mI_sL, mI_sP, mI_sA, mI_sB, mL_sI, mL_sL, mL_sP, mL_sA, mL_sB, mP_sI, mP_sL, mP_sP, mP_sA, mP_sB, mA_sI, mA_sL, mA_sP, mA_sAg, mA_sB, mB_sI, mB_sL, mB_sP, mB_sA, mB_sBg, mE_sI, mE_sL, mE_sP, mE_sA, mE_sB, Nat.reduceEqDiff, Nat.reduceAdd, Nat.reduceMul, Nat.reduceSub, Nat.reduceLT, Nat.reduceLeDiff, Nat.reduceDiv, Nat.reduceMod, Nat.reduceBEq, and_true, true_and, and_false, false_and, and_self, ite_true, ite_false, if_true, if_false, reduceIte, eq_self, not_true, not_false_eq_true, Bool.true_and, Bool.and_true, Bool.false_and, Bool.and_false, Bool.or_true, Bool.true_or, Bool.or_false, Bool.false_or, Bool.not_true, Bool.not_false, reduceCtorEq, upd_e, Nat.add_eq_zero_iff, Nat.add_right_cancel_iff, Nat.add_left_cancel_iff, decide_true, decide_false, Bool.false_eq_true, decide_eq_true_eq, inr_no hx]
  obtain ⟨σ', e1, c1⟩ := C_keep hC (show j < 2 by omega)
  obtain ⟨τ', e2, m1⟩ := M_keep ok hM (show j < 2 by omega)
  refine ⟨nI (vD (aN A)), σ', τ', e1, e2, wM A (putM (aM A) j (aN A)), q, q2, ?_, c1, m1⟩
  obtain ⟨o1, o2, o3, o4, o5, o6, o7⟩ := ok
  refine ⟨o1, o2, o3, fun i hi N hN => ?_, o5, o6, o7⟩
  have hN : putM (aM A) j (aN A) i = some N := hN
  by_cases ei : i = j
  · rw [putM_e ei] at hN
    cases hN; exact o3
  · rw [putM_n ei] at hN
    exact o4 i hi N hN
theorem op_back {σ τ : Mem} (h : Rel σ τ) (x1 : Int32) : ∃ (r : Int32) (σ' : Mem) (τ' : Mem), fX5_back σ 0 x1 = some (r, σ') ∧ fX6_back τ 0 x1 = some (r, τ') ∧ Rel σ' τ' := by
  obtain ⟨A, q, q2, ok, hC, hM⟩ := id h
  have hP3 : mP σ 0 3 = 4 := hC.1.2.1
  have hP4 : mP σ 0 4 = 5 := hC.1.2.2.1
  rcases pk_rng x1 (a := 0) (b := 1) (by decide) (by decide) with hx | ⟨j, -, hj, rfl⟩
  · refine ⟨-1, σ, τ, ite2 (m := 1) (by decide) hx, ?_, h⟩
    simp (disch := omega) only [fX6_back, stp_s, bd_s, bd2_s, gd_t, gd_in, clampN, fa_lit, ofN, nI_add, pk_mul, leN, ltN, eqN, eqNg, gNeq, gNlt, gNle, ltNg, leNg, gg, mI_sI, mI_sL, mI_sP, mI_sA, mI_sB, mL_sI, mL_sL, mL_sP, mL_sA, mL_sB, mP_sI, mP_sL, mP_sP, mP_sA, mP_sB, mA_sI, mA_sL, mA_sP, mA_sAg, mA_sB, mB_sI, mB_sL, mB_sP, mB_sA, mB_sBg, mE_sI, mE_sL, mE_sP, mE_sA, mE_sB, Nat.reduceEqDiff, Nat.reduceAdd, Nat.reduceMul, Nat.reduceSub, Nat.reduceLT, Nat.reduceLeDiff, Nat.reduceDiv, Nat.reduceMod, Nat.reduceBEq, and_true, true_and, and_false, false_and, and_self, ite_true, ite_false, if_true, if_false, reduceIte, eq_self, not_true, not_false_eq_true, Bool.true_and, Bool.and_true, Bool.false_and, Bool.and_false, Bool.or_true, Bool.true_or, Bool.or_false, Bool.false_or, Bool.not_true, Bool.not_false, reduceCtorEq, upd_e, Nat.add_eq_zero_iff, Nat.add_right_cancel_iff, Nat.add_left_cancel_iff, decide_true, decide_false, Bool.false_eq_true, decide_eq_true_eq, inr_no hx]
  obtain ⟨h1, h2, h3, h4, ⟨i6, im⟩, ⟨x, hx9, hk, hn, hh⟩, h7, h8⟩ := id hC
  have hq := hC.q
  have hE : mE σ 0 5 j = 7 + j := h1.2.2.2.2.2.2.2.1 j (by omega)
  have kb : (nI (b2n (aM A 0).isSome + 2 * b2n (aM A 1).isSome) >>> (nI j &&& nI 31)) &&& nI 1 = nI (b2n (aM A j).isSome) := by
    refine (im_bit_k (aM A 0).isSome (aM A 1).isSome ⟨j, by omega⟩).trans ?_
    have e : j = 0 ∨ j = 1 := by omega
    rcases e with rfl | rfl <;> rfl
  have m11 := hM.2.2.2.1.1 j (by omega)
  cases eM : aM A j with
  | none =>
    rw [eM] at kb m11
    have kb : (nI (b2n (aM A 0).isSome + 2 * b2n (aM A 1).isSome) >>> (nI j &&& nI 31)) &&& nI 1 = nI 0 := kb
    have m11 : mA τ 0 11 j = nI 0 := m11
    refine ⟨-2, σ, τ, ?_, ?_, h⟩
    · simp (disch := omega) only [fX5_back, stp_s, bd_s, bd2_s, gd_t, gd_in, clampN, fa_lit, ofN, nI_add, pk_mul, leN, ltN, eqN, eqNg, gNeq, gNlt, gNle, ltNg, leNg, gg, mI_sI, mI_sL, mI_sP, mI_sA, mI_sB, mL_sI, mL_sL, mL_sP, mL_sA, mL_sB, mP_sI, mP_sL, mP_sP, mP_sA, mP_sB, mA_sI, mA_sL, mA_sP, mA_sAg, mA_sB, mB_sI, mB_sL, mB_sP, mB_sA, mB_sBg, mE_sI, mE_sL, mE_sP, mE_sA, mE_sB, Nat.reduceEqDiff, Nat.reduceAdd, Nat.reduceMul, Nat.reduceSub, Nat.reduceLT, Nat.reduceLeDiff, Nat.reduceDiv, Nat.reduceMod, Nat.reduceBEq, and_true, true_and, and_false, false_and, and_self, ite_true, ite_false, if_true, if_false, reduceIte, eq_self, not_true, not_false_eq_true, Bool.true_and, Bool.and_true, Bool.false_and, Bool.and_false, Bool.or_true, Bool.true_or, Bool.or_false, Bool.false_or, Bool.not_true, Bool.not_false, reduceCtorEq, upd_e, Nat.add_eq_zero_iff, Nat.add_right_cancel_iff, Nat.add_left_cancel_iff, decide_true, decide_false, Bool.false_eq_true, decide_eq_true_eq, show ¬ j < 0 by omega, show j < 2 by omega, i6, kb]
    · simp (disch := omega) only [fX6_back, stp_s, bd_s, bd2_s, gd_t, gd_in, clampN, fa_lit, ofN, nI_add, pk_mul, leN, ltN, eqN, eqNg, gNeq, gNlt, gNle, ltNg, leNg, gg, mI_sI, mI_sL, mI_sP, mI_sA, mI_sB, mL_sI, mL_sL, mL_sP, mL_sA, mL_sB, mP_sI, mP_sL, mP_sP, mP_sA, mP_sB, mA_sI, mA_sL, mA_sP, mA_sAg, mA_sB, mB_sI, mB_sL, mB_sP, mB_sA, mB_sBg, mE_sI, mE_sL, mE_sP, mE_sA, mE_sB, Nat.reduceEqDiff, Nat.reduceAdd, Nat.reduceMul, Nat.reduceSub, Nat.reduceLT, Nat.reduceLeDiff, Nat.reduceDiv, Nat.reduceMod, Nat.reduceBEq, and_true, true_and, and_false, false_and, and_self, ite_true, ite_false, if_true, if_false, reduceIte, eq_self, not_true, not_false_eq_true, Bool.true_and, Bool.and_true, Bool.false_and, Bool.and_false, Bool.or_true, Bool.true_or, Bool.or_false, Bool.false_or, Bool.not_true, Bool.not_false, reduceCtorEq, upd_e, Nat.add_eq_zero_iff, Nat.add_right_cancel_iff, Nat.add_left_cancel_iff, decide_true, decide_false, Bool.false_eq_true, decide_eq_true_eq, inr_yes, m11]
  | some N =>
    rw [eM] at kb m11
    have kb : (nI (b2n (aM A 0).isSome + 2 * b2n (aM A 1).isSome) >>> (nI j &&& nI 31)) &&& nI 1 = nI 1 := kb
    have m11 : mA τ 0 11 j = nI 1 := m11
    have okN := ok.2.2.2.1 j (by omega) N eM
    obtain ⟨σ1, e1, n1, s1⟩ := (im j (by omega) N eM).becomeAs (o := 4) (by omega)
    have p3 : mP σ1 0 3 = 4 := by rw [(s1 0 3 (by omega)).2.2.1]; exact hP3
    have p4 : mP σ1 0 4 = 5 := by rw [(s1 0 4 (by omega)).2.2.1]; exact hP4
    obtain ⟨τ', e2, a2, b2, s2⟩ := M_back25 (j := j) (by omega) 26 0 FU τ (by omega) (by decide)
    have gN : NM (mA τ' 0 7) N := (hM.2.2.2.1.2 j (by omega) N eM).of (fun k hk => by rw [a2 k hk, if_pos (Nat.zero_le _)]) okN.2.2.2.2.1
    have m0 : mA τ' 0 7 0 = nI (vD N) := gN.1
    have hs : sameX (fun o k => o = 4 ∨ (o = 5 ∧ k = 0)) σ (sI σ1 5 0 (nI 0)) := (s1.mono (F' := fun o k => o = 4 ∨ (o = 5 ∧ k = 0)) (fun o k h => Or.inl h)).sI (Or.inr ⟨rfl, rfl⟩) _
    refine ⟨nI (vD N), sI σ1 5 0 (nI 0), τ', ?_, ?_, (aI A, aTx A, N, aM A, (0, (aH A).2), aB A, aT A), q, q2, ?_, ?_, ?_⟩
    · simp (disch := omega) only [fX5_back, stp_s, bd_s, bd2_s, gd_t, gd_in, clampN, fa_lit, ofN, nI_add, pk_mul, leN, ltN, eqN, eqNg, gNeq, gNlt, gNle, ltNg, leNg, gg, mI_sI, mI_sL, mI_sP, mI_sA, mI_sB, mL_sI, mL_sL, mL_sP, mL_sA, mL_sB, mP_sI, mP_sL, mP_sP, mP_sA, mP_sB, mA_sI, mA_sL, mA_sP, mA_sAg, mA_sB, mB_sI, mB_sL, mB_sP, mB_sA, mB_sBg, mE_sI, mE_sL, mE_sP, mE_sA, mE_sB, Nat.reduceEqDiff, Nat.reduceAdd, Nat.reduceMul, Nat.reduceSub, Nat.reduceLT, Nat.reduceLeDiff, Nat.reduceDiv, Nat.reduceMod, Nat.reduceBEq, and_true, true_and, and_false, false_and, and_self, ite_true, ite_false, if_true, if_false, reduceIte, eq_self, not_true, not_false_eq_true, Bool.true_and, Bool.and_true, Bool.false_and, Bool.and_false, Bool.or_true, Bool.true_or, Bool.or_false, Bool.false_or, Bool.not_true, Bool.not_false, reduceCtorEq, upd_e, Nat.add_eq_zero_iff, Nat.add_right_cancel_iff, Nat.add_left_cancel_iff, decide_true, decide_false, Bool.false_eq_true, decide_eq_true_eq, show ¬ j < 0 by omega, show j < 2 by omega, i6, kb, hP3, hE, e1, p4, p3, n1.1]
    · simp (disch := omega) only [fX6_back, stp_s, bd_s, bd2_s, gd_t, gd_in, clampN, fa_lit, ofN, nI_add, pk_mul, leN, ltN, eqN, eqNg, gNeq, gNlt, gNle, ltNg, leNg, gg, mI_sI, mI_sL, mI_sP, mI_sA, mI_sB, mL_sI, mL_sL, mL_sP, mL_sA, mL_sB, mP_sI, mP_sL, mP_sP, mP_sA, mP_sB, mA_sI, mA_sL, mA_sP, mA_sAg, mA_sB, mB_sI, mB_sL, mB_sP, mB_sA, mB_sBg, mE_sI, mE_sL, mE_sP, mE_sA, mE_sB, Nat.reduceEqDiff, Nat.reduceAdd, Nat.reduceMul, Nat.reduceSub, Nat.reduceLT, Nat.reduceLeDiff, Nat.reduceDiv, Nat.reduceMod, Nat.reduceBEq, and_true, true_and, and_false, false_and, and_self, ite_true, ite_false, if_true, if_false, reduceIte, eq_self, not_true, not_false_eq_true, Bool.true_and, Bool.and_true, Bool.false_and, Bool.and_false, Bool.or_true, Bool.true_or, Bool.or_false, Bool.false_or, Bool.not_true, Bool.not_false, reduceCtorEq, upd_e, Nat.add_eq_zero_iff, Nat.add_right_cancel_iff, Nat.add_left_cancel_iff, decide_true, decide_false, Bool.false_eq_true, decide_eq_true_eq, inr_yes, m11]
      exact e2.trans (by rw [m0])
    · obtain ⟨o1, o2, o3, o4, o5, o6, o7⟩ := ok
      exact ⟨o1, o2, okN, o4, Nat.zero_le 10, fun i hi => absurd hi (Nat.not_lt_zero i), o7⟩
    · refine ⟨h1.keep hs (fun k hk => by omega) ⟨by omega, by omega⟩, h2.keep hs (fun k => by omega), h3.keep hs ⟨by omega, by omega⟩, n1.keep (F := fun o k => o = 5 ∧ k = 0) (by repeat (first | exact sameX.rf | refine sameX.sI ?_ (by first | rfl | exact Or.inl rfl | exact Or.inr rfl | trivial | decide | omega | simp) _ | refine sameX.sA ?_ (by first | rfl | exact Or.inl rfl | exact Or.inr rfl | trivial | decide | omega | simp) _ _ | refine sameX.sL ?_ (by first | rfl | exact Or.inl rfl | exact Or.inr rfl | trivial | decide | omega | simp) _ | refine sameX.sP ?_ (by first | rfl | exact Or.inl rfl | exact Or.inr rfl | trivial | decide | omega | simp) _ | refine sameX.sB ?_ (by first | rfl | exact Or.inl rfl | exact Or.inr rfl | trivial | decide | omega | simp) _ _)) (fun k => by omega), ⟨by rw [(hs 0 6 (by omega)).1]; exact i6, fun i hi N hN => (im i hi N hN).keep hs (fun k => by omega)⟩, ⟨x, hx9, ?_, ?_, fun i hi => absurd hi (Nat.not_lt_zero i)⟩, h7.keep hs ⟨by omega, by omega, by omega⟩, by rw [(hs 0 13 (by omega)).2.1]; exact h8⟩
      · simp only [mI_sI, mI_sL, mI_sP, mI_sA, mI_sB, mL_sI, mL_sL, mL_sP, mL_sA, mL_sB, mP_sI, mP_sL, mP_sP, mP_sA, mP_sB, mA_sI, mA_sL, mA_sP, mA_sAg, mA_sB, mB_sI, mB_sL, mB_sP, mB_sA, mB_sBg, mE_sI, mE_sL, mE_sP, mE_sA, mE_sB, Nat.reduceEqDiff, Nat.reduceAdd, Nat.reduceMul, Nat.reduceSub, Nat.reduceLT, Nat.reduceLeDiff, Nat.reduceDiv, Nat.reduceMod, Nat.reduceBEq, and_true, true_and, and_false, false_and, and_self, ite_true, ite_false, if_true, if_false, reduceIte, eq_self, not_true, not_false_eq_true, Bool.true_and, Bool.and_true, Bool.false_and, Bool.and_false, Bool.or_true, Bool.true_or, Bool.or_false, Bool.false_or, Bool.not_true, Bool.not_false, reduceCtorEq, upd_e, Nat.add_eq_zero_iff, Nat.add_right_cancel_iff, Nat.add_left_cancel_iff]; rfl
      · rw [(hs 5 1 (by omega)).1]; exact hn
    · obtain ⟨g1, g2, g3, g4, g5, g6, g7⟩ := id hM
      exact ⟨g1.keep s2 (fun k hk => by omega), g2.keep s2 ⟨by omega, by omega⟩, gN, g4.keep s2 ⟨by omega, by omega⟩, ⟨b2, fun i hi => absurd hi (Nat.not_lt_zero i)⟩, g6.keep s2 (fun k _ _ => by omega), by rw [(s2 0 16 (by omega)).2.1]; exact g7⟩
/-! the boat that takes most -/
theorem M_boat42 {τ : Mem} {I : IV} {N : NV} (h : IMo τ I) (ok : IOK I) (hN : NM (mA τ 0 7) N) (hok : NOK N (iT I) (iR I)) (K : Int32 → Int32 → Int32 → Int32 → Int32 → Option Int32) (x1 x2 x3 : Int32) {x4 l : Nat} (h4 : x4 ≤ 6) (hl : l ≤ 60) : ∀ (d i n c : Nat), i + d = iT I → c ≤ i → d < n → fX6_boat_42 K τ 0 n x1 x2 x3 (nI x4) (nI l) (nI c) (nI i) = if (vD N + l) % iB I = 0 ∧ x4 < c + sumR (fun t => b2n (leave N (iH I) l t)) i d then K x1 x2 (nI (vD N + l)) (nI (c + sumR (fun t => b2n (leave N (iH I) l t)) i d)) (nI (l + 1)) else K x1 x2 x3 (nI x4) (nI (l + 1)) := by
  have hT := ok.2.2.2.1
  have hH := ok.1
  have hD := hok.1
  have m0 : mA τ 0 7 0 = nI (vD N) := hN.1
  intro d
  induction d with
  | zero =>
    intro i n c hi hc hn
    obtain ⟨n, rfl⟩ : ∃ m, n = m + 1 := ⟨n - 1, by omega⟩
    by_cases eb : (vD N + l) % iB I = 0
    · by_cases ec : x4 < c
      · simp (disch := omega) only [fX6_boat_42, fX6_boat_129, fX6_boat_149, stp_s, bd_s, bd2_s, gd_t, gd_in, clampN, fa_lit, ofN, nI_add, pk_mul, leN, ltN, eqN, eqNg, gNeq, gNlt, gNle, ltNg, leNg, gg, mI_sI, mI_sL, mI_sP, mI_sA, mI_sB, mL_sI, mL_sL, mL_sP, mL_sA, mL_sB, mP_sI, mP_sL, mP_sP, mP_sA, mP_sB, mA_sI, mA_sL, mA_sP, mA_sAg, mA_sB, mB_sI, mB_sL, mB_sP, mB_sA, mB_sBg, mE_sI, mE_sL, mE_sP, mE_sA, mE_sB, Nat.reduceEqDiff, Nat.reduceAdd, Nat.reduceMul, Nat.reduceSub, Nat.reduceLT, Nat.reduceLeDiff, Nat.reduceDiv, Nat.reduceMod, Nat.reduceBEq, and_true, true_and, and_false, false_and, and_self, ite_true, ite_false, if_true, if_false, reduceIte, eq_self, not_true, not_false_eq_true, Bool.true_and, Bool.and_true, Bool.false_and, Bool.and_false, Bool.or_true, Bool.true_or, Bool.or_false, Bool.false_or, Bool.not_true, Bool.not_false, reduceCtorEq, upd_e, Nat.add_eq_zero_iff, Nat.add_right_cancel_iff, Nat.add_left_cancel_iff, decide_true, decide_false, Bool.false_eq_true, decide_eq_true_eq, h.2.2.2.1, m0, M_boat h ok, show iT I ≤ i by omega, eb, ec, show ¬ c ≤ x4 by omega, sumR, Nat.add_zero]
      · simp (disch := omega) only [fX6_boat_42, fX6_boat_129, fX6_boat_149, stp_s, bd_s, bd2_s, gd_t, gd_in, clampN, fa_lit, ofN, nI_add, pk_mul, leN, ltN, eqN, eqNg, gNeq, gNlt, gNle, ltNg, leNg, gg, mI_sI, mI_sL, mI_sP, mI_sA, mI_sB, mL_sI, mL_sL, mL_sP, mL_sA, mL_sB, mP_sI, mP_sL, mP_sP, mP_sA, mP_sB, mA_sI, mA_sL, mA_sP, mA_sAg, mA_sB, mB_sI, mB_sL, mB_sP, mB_sA, mB_sBg, mE_sI, mE_sL, mE_sP, mE_sA, mE_sB, Nat.reduceEqDiff, Nat.reduceAdd, Nat.reduceMul, Nat.reduceSub, Nat.reduceLT, Nat.reduceLeDiff, Nat.reduceDiv, Nat.reduceMod, Nat.reduceBEq, and_true, true_and, and_false, false_and, and_self, ite_true, ite_false, if_true, if_false, reduceIte, eq_self, not_true, not_false_eq_true, Bool.true_and, Bool.and_true, Bool.false_and, Bool.and_false, Bool.or_true, Bool.true_or, Bool.or_false, Bool.false_or, Bool.not_true, Bool.not_false, reduceCtorEq, upd_e, Nat.add_eq_zero_iff, Nat.add_right_cancel_iff, Nat.add_left_cancel_iff, decide_true, decide_false, Bool.false_eq_true, decide_eq_true_eq, h.2.2.2.1, m0, M_boat h ok, show iT I ≤ i by omega, eb, ec, show c ≤ x4 by omega, sumR, Nat.add_zero]
    · simp (disch := omega) only [fX6_boat_42, fX6_boat_129, fX6_boat_149, stp_s, bd_s, bd2_s, gd_t, gd_in, clampN, fa_lit, ofN, nI_add, pk_mul, leN, ltN, eqN, eqNg, gNeq, gNlt, gNle, ltNg, leNg, gg, mI_sI, mI_sL, mI_sP, mI_sA, mI_sB, mL_sI, mL_sL, mL_sP, mL_sA, mL_sB, mP_sI, mP_sL, mP_sP, mP_sA, mP_sB, mA_sI, mA_sL, mA_sP, mA_sAg, mA_sB, mB_sI, mB_sL, mB_sP, mB_sA, mB_sBg, mE_sI, mE_sL, mE_sP, mE_sA, mE_sB, Nat.reduceEqDiff, Nat.reduceAdd, Nat.reduceMul, Nat.reduceSub, Nat.reduceLT, Nat.reduceLeDiff, Nat.reduceDiv, Nat.reduceMod, Nat.reduceBEq, and_true, true_and, and_false, false_and, and_self, ite_true, ite_false, if_true, if_false, reduceIte, eq_self, not_true, not_false_eq_true, Bool.true_and, Bool.and_true, Bool.false_and, Bool.and_false, Bool.or_true, Bool.true_or, Bool.or_false, Bool.false_or, Bool.not_true, Bool.not_false, reduceCtorEq, upd_e, Nat.add_eq_zero_iff, Nat.add_right_cancel_iff, Nat.add_left_cancel_iff, decide_true, decide_false, Bool.false_eq_true, decide_eq_true_eq, h.2.2.2.1, m0, M_boat h ok, show iT I ≤ i by omega, eb]
  | succ d ih =>
    intro i n c hi hc hn
    obtain ⟨n, rfl⟩ : ∃ m, n = m + 1 := ⟨n - 1, by omega⟩
    have hi6 : i < 6 := by omega
    have hr3 := (hok.2.1 i hi6).1
    have n2 := hN.2.2.1 i hi6
    have n8 := hN.2.2.2.1 i hi6
    rw [sumR_s]
    by_cases e : vR N i < 3
    · rw [if_pos e] at n2 n8
      have hy := hok.2.2.2.1 _ e
      by_cases e2 : vY N (vR N i) + l < iH I
      · have el : leave N (iH I) l i = false := by
          unfold leave; rw [decide_eq_true e, decide_eq_false (by omega)]; rfl
        rw [el, b2n_f, Nat.zero_add]
        have z := ih (i + 1) n c (by omega) (by omega) (by omega)
        simp (disch := omega) only [fX6_boat_42, stp_s, bd_s, bd2_s, gd_t, gd_in, clampN, fa_lit, ofN, nI_add, pk_mul, leN, ltN, eqN, eqNg, gNeq, gNlt, gNle, ltNg, leNg, gg, mI_sI, mI_sL, mI_sP, mI_sA, mI_sB, mL_sI, mL_sL, mL_sP, mL_sA, mL_sB, mP_sI, mP_sL, mP_sP, mP_sA, mP_sB, mA_sI, mA_sL, mA_sP, mA_sAg, mA_sB, mB_sI, mB_sL, mB_sP, mB_sA, mB_sBg, mE_sI, mE_sL, mE_sP, mE_sA, mE_sB, Nat.reduceEqDiff, Nat.reduceAdd, Nat.reduceMul, Nat.reduceSub, Nat.reduceLT, Nat.reduceLeDiff, Nat.reduceDiv, Nat.reduceMod, Nat.reduceBEq, and_true, true_and, and_false, false_and, and_self, ite_true, ite_false, if_true, if_false, reduceIte, eq_self, not_true, not_false_eq_true, Bool.true_and, Bool.and_true, Bool.false_and, Bool.and_false, Bool.or_true, Bool.true_or, Bool.or_false, Bool.false_or, Bool.not_true, Bool.not_false, reduceCtorEq, upd_e, Nat.add_eq_zero_iff, Nat.add_right_cancel_iff, Nat.add_left_cancel_iff, decide_true, decide_false, Bool.false_eq_true, decide_eq_true_eq, h.2.2.2.1, show ¬ iT I ≤ i by omega, n2, n8, h.1, e2, Nat.add_zero]
        exact z
      · have el : leave N (iH I) l i = true := by
          unfold leave; rw [decide_eq_true e, decide_eq_true (by omega)]; rfl
        rw [el, b2n_t, ← Nat.add_assoc]
        have z := ih (i + 1) n (c + 1) (by omega) (by omega) (by omega)
        simp (disch := omega) only [fX6_boat_42, stp_s, bd_s, bd2_s, gd_t, gd_in, clampN, fa_lit, ofN, nI_add, pk_mul, leN, ltN, eqN, eqNg, gNeq, gNlt, gNle, ltNg, leNg, gg, mI_sI, mI_sL, mI_sP, mI_sA, mI_sB, mL_sI, mL_sL, mL_sP, mL_sA, mL_sB, mP_sI, mP_sL, mP_sP, mP_sA, mP_sB, mA_sI, mA_sL, mA_sP, mA_sAg, mA_sB, mB_sI, mB_sL, mB_sP, mB_sA, mB_sBg, mE_sI, mE_sL, mE_sP, mE_sA, mE_sB, Nat.reduceEqDiff, Nat.reduceAdd, Nat.reduceMul, Nat.reduceSub, Nat.reduceLT, Nat.reduceLeDiff, Nat.reduceDiv, Nat.reduceMod, Nat.reduceBEq, and_true, true_and, and_false, false_and, and_self, ite_true, ite_false, if_true, if_false, reduceIte, eq_self, not_true, not_false_eq_true, Bool.true_and, Bool.and_true, Bool.false_and, Bool.and_false, Bool.or_true, Bool.true_or, Bool.or_false, Bool.false_or, Bool.not_true, Bool.not_false, reduceCtorEq, upd_e, Nat.add_eq_zero_iff, Nat.add_right_cancel_iff, Nat.add_left_cancel_iff, decide_true, decide_false, Bool.false_eq_true, decide_eq_true_eq, h.2.2.2.1, show ¬ iT I ≤ i by omega, n2, n8, h.1, e2, Nat.add_zero]
        exact z
    · rw [if_neg e] at n2
      have el : leave N (iH I) l i = false := by
        unfold leave; rw [decide_eq_false e]; rfl
      rw [el, b2n_f, Nat.zero_add]
      have z := ih (i + 1) n c (by omega) (by omega) (by omega)
      have n2 : mA τ 0 7 (2 + i) = -nI 9 := n2
      simp (disch := omega) only [fX6_boat_42, stp_s, bd_s, bd2_s, gd_t, gd_in, clampN, fa_lit, ofN, nI_add, pk_mul, leN, ltN, eqN, eqNg, gNeq, gNlt, gNle, ltNg, leNg, gg, mI_sI, mI_sL, mI_sP, mI_sA, mI_sB, mL_sI, mL_sL, mL_sP, mL_sA, mL_sB, mP_sI, mP_sL, mP_sP, mP_sA, mP_sB, mA_sI, mA_sL, mA_sP, mA_sAg, mA_sB, mB_sI, mB_sL, mB_sP, mB_sA, mB_sBg, mE_sI, mE_sL, mE_sP, mE_sA, mE_sB, Nat.reduceEqDiff, Nat.reduceAdd, Nat.reduceMul, Nat.reduceSub, Nat.reduceLT, Nat.reduceLeDiff, Nat.reduceDiv, Nat.reduceMod, Nat.reduceBEq, and_true, true_and, and_false, false_and, and_self, ite_true, ite_false, if_true, if_false, reduceIte, eq_self, not_true, not_false_eq_true, Bool.true_and, Bool.and_true, Bool.false_and, Bool.and_false, Bool.or_true, Bool.true_or, Bool.or_false, Bool.false_or, Bool.not_true, Bool.not_false, reduceCtorEq, upd_e, Nat.add_eq_zero_iff, Nat.add_right_cancel_iff, Nat.add_left_cancel_iff, decide_true, decide_false, Bool.false_eq_true, decide_eq_true_eq, h.2.2.2.1, show ¬ iT I ≤ i by omega, n2, Nat.add_zero]
      exact z
theorem boat_l {σ τ : Mem} {q q2 : Nat} {A : AS} (ok : AOK A) (hC : CSq σ q q2 A) (hM : MS τ A) {x : Nat} (hx : x ≤ 60) (x2 : Int32) : ∀ (d l n m : Nat) (x3 : Int32) (x4 : Nat), l + d = x + 1 → x4 ≤ 6 → d < n → d < m → ∃ r, fX5_boat_31 σ 0 n (nI x) x2 x3 (nI x4) (nI l) = some r ∧ fX6_boat_30 τ 0 m (nI x) x2 x3 (nI x4) (nI l) = some r := by
  have hP1 : mP σ 0 1 = q := hC.1.2.2.2.2.1
  have hP3 : mP σ 0 3 = 4 := hC.1.2.1
  have hD := ok.2.2.1.1
  have hT := ok.1.2.2.2.1
  intro d
  induction d with
  | zero =>
    intro l n m x3 x4 hl h4 hn hm
    obtain ⟨n, rfl⟩ : ∃ m, n = m + 1 := ⟨n - 1, by omega⟩
    obtain ⟨m, rfl⟩ : ∃ m', m = m' + 1 := ⟨m - 1, by omega⟩
    by_cases e3 : x3 = -nI 9
    · refine ⟨-nI 9, ?_, ?_⟩
      · simp (disch := omega) only [fX5_boat_31, stp_s, bd_s, bd2_s, gd_t, gd_in, clampN, fa_lit, ofN, nI_add, pk_mul, leN, ltN, eqN, eqNg, gNeq, gNlt, gNle, ltNg, leNg, gg, mI_sI, mI_sL, mI_sP, mI_sA, mI_sB, mL_sI, mL_sL, mL_sP, mL_sA, mL_sB, mP_sI, mP_sL, mP_sP, mP_sA, mP_sB, mA_sI, mA_sL, mA_sP, mA_sAg, mA_sB, mB_sI, mB_sL, mB_sP, mB_sA, mB_sBg, mE_sI, mE_sL, mE_sP, mE_sA, mE_sB, Nat.reduceEqDiff, Nat.reduceAdd, Nat.reduceMul, Nat.reduceSub, Nat.reduceLT, Nat.reduceLeDiff, Nat.reduceDiv, Nat.reduceMod, Nat.reduceBEq, and_true, true_and, and_false, false_and, and_self, ite_true, ite_false, if_true, if_false, reduceIte, eq_self, not_true, not_false_eq_true, Bool.true_and, Bool.and_true, Bool.false_and, Bool.and_false, Bool.or_true, Bool.true_or, Bool.or_false, Bool.false_or, Bool.not_true, Bool.not_false, reduceCtorEq, upd_e, Nat.add_eq_zero_iff, Nat.add_right_cancel_iff, Nat.add_left_cancel_iff, decide_true, decide_false, Bool.false_eq_true, decide_eq_true_eq, show x < l by omega, e3]
      · simp (disch := omega) only [fX6_boat_30, stp_s, bd_s, bd2_s, gd_t, gd_in, clampN, fa_lit, ofN, nI_add, pk_mul, leN, ltN, eqN, eqNg, gNeq, gNlt, gNle, ltNg, leNg, gg, mI_sI, mI_sL, mI_sP, mI_sA, mI_sB, mL_sI, mL_sL, mL_sP, mL_sA, mL_sB, mP_sI, mP_sL, mP_sP, mP_sA, mP_sB, mA_sI, mA_sL, mA_sP, mA_sAg, mA_sB, mB_sI, mB_sL, mB_sP, mB_sA, mB_sBg, mE_sI, mE_sL, mE_sP, mE_sA, mE_sB, Nat.reduceEqDiff, Nat.reduceAdd, Nat.reduceMul, Nat.reduceSub, Nat.reduceLT, Nat.reduceLeDiff, Nat.reduceDiv, Nat.reduceMod, Nat.reduceBEq, and_true, true_and, and_false, false_and, and_self, ite_true, ite_false, if_true, if_false, reduceIte, eq_self, not_true, not_false_eq_true, Bool.true_and, Bool.and_true, Bool.false_and, Bool.and_false, Bool.or_true, Bool.true_or, Bool.or_false, Bool.false_or, Bool.not_true, Bool.not_false, reduceCtorEq, upd_e, Nat.add_eq_zero_iff, Nat.add_right_cancel_iff, Nat.add_left_cancel_iff, decide_true, decide_false, Bool.false_eq_true, decide_eq_true_eq, show x < l by omega, e3]
    · by_cases e2 : x2 = nI 0
      · refine ⟨x3, ?_, ?_⟩
        · simp (disch := omega) only [fX5_boat_31, stp_s, bd_s, bd2_s, gd_t, gd_in, clampN, fa_lit, ofN, nI_add, pk_mul, leN, ltN, eqN, eqNg, gNeq, gNlt, gNle, ltNg, leNg, gg, mI_sI, mI_sL, mI_sP, mI_sA, mI_sB, mL_sI, mL_sL, mL_sP, mL_sA, mL_sB, mP_sI, mP_sL, mP_sP, mP_sA, mP_sB, mA_sI, mA_sL, mA_sP, mA_sAg, mA_sB, mB_sI, mB_sL, mB_sP, mB_sA, mB_sBg, mE_sI, mE_sL, mE_sP, mE_sA, mE_sB, Nat.reduceEqDiff, Nat.reduceAdd, Nat.reduceMul, Nat.reduceSub, Nat.reduceLT, Nat.reduceLeDiff, Nat.reduceDiv, Nat.reduceMod, Nat.reduceBEq, and_true, true_and, and_false, false_and, and_self, ite_true, ite_false, if_true, if_false, reduceIte, eq_self, not_true, not_false_eq_true, Bool.true_and, Bool.and_true, Bool.false_and, Bool.and_false, Bool.or_true, Bool.true_or, Bool.or_false, Bool.false_or, Bool.not_true, Bool.not_false, reduceCtorEq, upd_e, Nat.add_eq_zero_iff, Nat.add_right_cancel_iff, Nat.add_left_cancel_iff, decide_true, decide_false, Bool.false_eq_true, decide_eq_true_eq, show x < l by omega, e3, e2]
        · simp (disch := omega) only [fX6_boat_30, stp_s, bd_s, bd2_s, gd_t, gd_in, clampN, fa_lit, ofN, nI_add, pk_mul, leN, ltN, eqN, eqNg, gNeq, gNlt, gNle, ltNg, leNg, gg, mI_sI, mI_sL, mI_sP, mI_sA, mI_sB, mL_sI, mL_sL, mL_sP, mL_sA, mL_sB, mP_sI, mP_sL, mP_sP, mP_sA, mP_sB, mA_sI, mA_sL, mA_sP, mA_sAg, mA_sB, mB_sI, mB_sL, mB_sP, mB_sA, mB_sBg, mE_sI, mE_sL, mE_sP, mE_sA, mE_sB, Nat.reduceEqDiff, Nat.reduceAdd, Nat.reduceMul, Nat.reduceSub, Nat.reduceLT, Nat.reduceLeDiff, Nat.reduceDiv, Nat.reduceMod, Nat.reduceBEq, and_true, true_and, and_false, false_and, and_self, ite_true, ite_false, if_true, if_false, reduceIte, eq_self, not_true, not_false_eq_true, Bool.true_and, Bool.and_true, Bool.false_and, Bool.and_false, Bool.or_true, Bool.true_or, Bool.or_false, Bool.false_or, Bool.not_true, Bool.not_false, reduceCtorEq, upd_e, Nat.add_eq_zero_iff, Nat.add_right_cancel_iff, Nat.add_left_cancel_iff, decide_true, decide_false, Bool.false_eq_true, decide_eq_true_eq, show x < l by omega, e3, e2]
      · refine ⟨nI x4, ?_, ?_⟩
        · simp (disch := omega) only [fX5_boat_31, stp_s, bd_s, bd2_s, gd_t, gd_in, clampN, fa_lit, ofN, nI_add, pk_mul, leN, ltN, eqN, eqNg, gNeq, gNlt, gNle, ltNg, leNg, gg, mI_sI, mI_sL, mI_sP, mI_sA, mI_sB, mL_sI, mL_sL, mL_sP, mL_sA, mL_sB, mP_sI, mP_sL, mP_sP, mP_sA, mP_sB, mA_sI, mA_sL, mA_sP, mA_sAg, mA_sB, mB_sI, mB_sL, mB_sP, mB_sA, mB_sBg, mE_sI, mE_sL, mE_sP, mE_sA, mE_sB, Nat.reduceEqDiff, Nat.reduceAdd, Nat.reduceMul, Nat.reduceSub, Nat.reduceLT, Nat.reduceLeDiff, Nat.reduceDiv, Nat.reduceMod, Nat.reduceBEq, and_true, true_and, and_false, false_and, and_self, ite_true, ite_false, if_true, if_false, reduceIte, eq_self, not_true, not_false_eq_true, Bool.true_and, Bool.and_true, Bool.false_and, Bool.and_false, Bool.or_true, Bool.true_or, Bool.or_false, Bool.false_or, Bool.not_true, Bool.not_false, reduceCtorEq, upd_e, Nat.add_eq_zero_iff, Nat.add_right_cancel_iff, Nat.add_left_cancel_iff, decide_true, decide_false, Bool.false_eq_true, decide_eq_true_eq, show x < l by omega, e3, e2]
        · simp (disch := omega) only [fX6_boat_30, stp_s, bd_s, bd2_s, gd_t, gd_in, clampN, fa_lit, ofN, nI_add, pk_mul, leN, ltN, eqN, eqNg, gNeq, gNlt, gNle, ltNg, leNg, gg, mI_sI, mI_sL, mI_sP, mI_sA, mI_sB, mL_sI, mL_sL, mL_sP, mL_sA, mL_sB, mP_sI, mP_sL, mP_sP, mP_sA, mP_sB, mA_sI, mA_sL, mA_sP, mA_sAg, mA_sB, mB_sI, mB_sL, mB_sP, mB_sA, mB_sBg, mE_sI, mE_sL, mE_sP, mE_sA, mE_sB, Nat.reduceEqDiff, Nat.reduceAdd, Nat.reduceMul, Nat.reduceSub, Nat.reduceLT, Nat.reduceLeDiff, Nat.reduceDiv, Nat.reduceMod, Nat.reduceBEq, and_true, true_and, and_false, false_and, and_self, ite_true, ite_false, if_true, if_false, reduceIte, eq_self, not_true, not_false_eq_true, Bool.true_and, Bool.and_true, Bool.false_and, Bool.and_false, Bool.or_true, Bool.true_or, Bool.or_false, Bool.false_or, Bool.not_true, Bool.not_false, reduceCtorEq, upd_e, Nat.add_eq_zero_iff, Nat.add_right_cancel_iff, Nat.add_left_cancel_iff, decide_true, decide_false, Bool.false_eq_true, decide_eq_true_eq, show x < l by omega, e3, e2]
  | succ d ih =>
    intro l n m x3 x4 hl h4 hn hm
    obtain ⟨n, rfl⟩ : ∃ m, n = m + 1 := ⟨n - 1, by omega⟩
    obtain ⟨m, rfl⟩ : ∃ m', m = m' + 1 := ⟨m - 1, by omega⟩
    have hlv := C_leave ok hC (l := l) (by omega)
    have hct := ct6_le (leave (aN A) (iH (aI A)) l)
    have sc : sumR (fun t => b2n (leave (aN A) (iH (aI A)) l t)) 0 (iT (aI A)) = ct6 (leave (aN A) (iH (aI A)) l) := sum_ct hT (fun t h1 h2 => by
      unfold leave; rw [(ok.2.2.1.2.2.1 t h1).1]; rfl)
    have hm42 := M_boat42 hM.1 ok.1 hM.2.2.1 ok.2.2.1 (fX6_boat_30 τ 0 m) (nI x) x2 x3 h4 (show l ≤ 60 by omega) (iT (aI A)) 0 FU 0 (by omega) (by omega) (by show _ < 1000; omega)
    rw [sc, Nat.zero_add] at hm42
    have em : fX6_boat_30 τ 0 (m + 1) (nI x) x2 x3 (nI x4) (nI l) = if (vD (aN A) + l) % iB (aI A) = 0 ∧ x4 < ct6 (leave (aN A) (iH (aI A)) l) then fX6_boat_30 τ 0 m (nI x) x2 (nI (vD (aN A) + l)) (nI (ct6 (leave (aN A) (iH (aI A)) l))) (nI (l + 1)) else fX6_boat_30 τ 0 m (nI x) x2 x3 (nI x4) (nI (l + 1)) := by
      rw [fX6_boat_30.eq_2, iteL (by omega) (by omega), if_neg (by omega)]
      exact hm42
    have ec : fX5_boat_31 σ 0 (n + 1) (nI x) x2 x3 (nI x4) (nI l) = if (vD (aN A) + l) % iB (aI A) = 0 ∧ x4 < ct6 (leave (aN A) (iH (aI A)) l) then fX5_boat_31 σ 0 n (nI x) x2 (nI (vD (aN A) + l)) (nI (ct6 (leave (aN A) (iH (aI A)) l))) (nI (l + 1)) else fX5_boat_31 σ 0 n (nI x) x2 x3 (nI x4) (nI (l + 1)) := by
      rw [fX5_boat_31.eq_2, iteL (by omega) (by omega), if_neg (by omega), hP3, hP1, hC.2.1.1, hlv, bd_s, bs6_ct, bd_s, iteLE (by omega) (by omega), hC.2.2.2.1.1, nI_add, C_boat hC.2.1 ok.1 (by omega), bd_s, nI_1]
      by_cases e1 : ct6 (leave (aN A) (iH (aI A)) l) ≤ x4
      · rw [if_pos e1, if_neg (by omega)]
      · rw [if_neg e1]
        by_cases e2 : (vD (aN A) + l) % iB (aI A) = 0
        · rw [if_pos e2, if_neg (by decide), if_pos ⟨e2, by omega⟩]
        · rw [if_neg e2, if_pos rfl, if_neg (fun q => e2 q.1)]
    rw [em, ec]
    by_cases e : (vD (aN A) + l) % iB (aI A) = 0 ∧ x4 < ct6 (leave (aN A) (iH (aI A)) l)
    · rw [if_pos e, if_pos e]
      exact ih (l + 1) n m _ _ (by omega) hct (by omega) (by omega)
    · rw [if_neg e, if_neg e]
      exact ih (l + 1) n m _ _ (by omega) h4 (by omega) (by omega)
theorem op_boat {σ τ : Mem} (h : Rel σ τ) (x1 : Int32) (x2 : Int32) : ∃ (r : Int32), fX5_boat σ 0 x1 x2 = some r ∧ fX6_boat τ 0 x1 x2 = some r := by
  obtain ⟨A, q, q2, ok, hC, hM⟩ := id h
  rcases pk_rng x1 (a := 1) (b := 60) (by decide) (by decide) with hx | ⟨x, h1, hx, rfl⟩
  · refine ⟨-1, ?_, ?_⟩
    · unfold fX5_boat
      rcases hx with hx | hx
      · exact if_pos hx
      · by_cases e : x1 < 1
        · exact if_pos e
        · rw [if_neg e]; exact if_pos hx
    · simp (disch := omega) only [fX6_boat, stp_s, bd_s, bd2_s, gd_t, gd_in, clampN, fa_lit, ofN, nI_add, pk_mul, leN, ltN, eqN, eqNg, gNeq, gNlt, gNle, ltNg, leNg, gg, mI_sI, mI_sL, mI_sP, mI_sA, mI_sB, mL_sI, mL_sL, mL_sP, mL_sA, mL_sB, mP_sI, mP_sL, mP_sP, mP_sA, mP_sB, mA_sI, mA_sL, mA_sP, mA_sAg, mA_sB, mB_sI, mB_sL, mB_sP, mB_sA, mB_sBg, mE_sI, mE_sL, mE_sP, mE_sA, mE_sB, Nat.reduceEqDiff, Nat.reduceAdd, Nat.reduceMul, Nat.reduceSub, Nat.reduceLT, Nat.reduceLeDiff, Nat.reduceDiv, Nat.reduceMod, Nat.reduceBEq, and_true, true_and, and_false, false_and, and_self, ite_true, ite_false, if_true, if_false, reduceIte, eq_self, not_true, not_false_eq_true, Bool.true_and, Bool.and_true, Bool.false_and, Bool.and_false, Bool.or_true, Bool.true_or, Bool.or_false, Bool.false_or, Bool.not_true, Bool.not_false, reduceCtorEq, upd_e, Nat.add_eq_zero_iff, Nat.add_right_cancel_iff, Nat.add_left_cancel_iff, decide_true, decide_false, Bool.false_eq_true, decide_eq_true_eq, inr_no hx]
  rcases pk_rng x2 (a := 0) (b := 1) (by decide) (by decide) with hy | ⟨y, h2, hy, rfl⟩
  · refine ⟨-1, ?_, ?_⟩
    · simp (disch := omega) only [fX5_boat, stp_s, bd_s, bd2_s, gd_t, gd_in, clampN, fa_lit, ofN, nI_add, pk_mul, leN, ltN, eqN, eqNg, gNeq, gNlt, gNle, ltNg, leNg, gg, mI_sI, mI_sL, mI_sP, mI_sA, mI_sB, mL_sI, mL_sL, mL_sP, mL_sA, mL_sB, mP_sI, mP_sL, mP_sP, mP_sA, mP_sB, mA_sI, mA_sL, mA_sP, mA_sAg, mA_sB, mB_sI, mB_sL, mB_sP, mB_sA, mB_sBg, mE_sI, mE_sL, mE_sP, mE_sA, mE_sB, Nat.reduceEqDiff, Nat.reduceAdd, Nat.reduceMul, Nat.reduceSub, Nat.reduceLT, Nat.reduceLeDiff, Nat.reduceDiv, Nat.reduceMod, Nat.reduceBEq, and_true, true_and, and_false, false_and, and_self, ite_true, ite_false, if_true, if_false, reduceIte, eq_self, not_true, not_false_eq_true, Bool.true_and, Bool.and_true, Bool.false_and, Bool.and_false, Bool.or_true, Bool.true_or, Bool.or_false, Bool.false_or, Bool.not_true, Bool.not_false, reduceCtorEq, upd_e, Nat.add_eq_zero_iff, Nat.add_right_cancel_iff, Nat.add_left_cancel_iff, decide_true, decide_false, Bool.false_eq_true, decide_eq_true_eq, show ¬ x < 1 by omega, show ¬ 60 < x by omega]
      exact ite3 hy
    · simp (disch := omega) only [fX6_boat, stp_s, bd_s, bd2_s, gd_t, gd_in, clampN, fa_lit, ofN, nI_add, pk_mul, leN, ltN, eqN, eqNg, gNeq, gNlt, gNle, ltNg, leNg, gg, mI_sI, mI_sL, mI_sP, mI_sA, mI_sB, mL_sI, mL_sL, mL_sP, mL_sA, mL_sB, mP_sI, mP_sL, mP_sP, mP_sA, mP_sB, mA_sI, mA_sL, mA_sP, mA_sAg, mA_sB, mB_sI, mB_sL, mB_sP, mB_sA, mB_sBg, mE_sI, mE_sL, mE_sP, mE_sA, mE_sB, Nat.reduceEqDiff, Nat.reduceAdd, Nat.reduceMul, Nat.reduceSub, Nat.reduceLT, Nat.reduceLeDiff, Nat.reduceDiv, Nat.reduceMod, Nat.reduceBEq, and_true, true_and, and_false, false_and, and_self, ite_true, ite_false, if_true, if_false, reduceIte, eq_self, not_true, not_false_eq_true, Bool.true_and, Bool.and_true, Bool.false_and, Bool.and_false, Bool.or_true, Bool.true_or, Bool.or_false, Bool.false_or, Bool.not_true, Bool.not_false, reduceCtorEq, upd_e, Nat.add_eq_zero_iff, Nat.add_right_cancel_iff, Nat.add_left_cancel_iff, decide_true, decide_false, Bool.false_eq_true, decide_eq_true_eq, inr_yes, inr_no hy]
  · obtain ⟨r, e1, e2⟩ := boat_l ok hC hM hx (nI y) (x + 1) 0 FU FU (-nI 9) 0 (by omega) (by omega) (by show _ < 1000; omega) (by show _ < 1000; omega)
    refine ⟨r, ?_, ?_⟩
    · simp (disch := omega) only [fX5_boat, stp_s, bd_s, bd2_s, gd_t, gd_in, clampN, fa_lit, ofN, nI_add, pk_mul, leN, ltN, eqN, eqNg, gNeq, gNlt, gNle, ltNg, leNg, gg, mI_sI, mI_sL, mI_sP, mI_sA, mI_sB, mL_sI, mL_sL, mL_sP, mL_sA, mL_sB, mP_sI, mP_sL, mP_sP, mP_sA, mP_sB, mA_sI, mA_sL, mA_sP, mA_sAg, mA_sB, mB_sI, mB_sL, mB_sP, mB_sA, mB_sBg, mE_sI, mE_sL, mE_sP, mE_sA, mE_sB, Nat.reduceEqDiff, Nat.reduceAdd, Nat.reduceMul, Nat.reduceSub, Nat.reduceLT, Nat.reduceLeDiff, Nat.reduceDiv, Nat.reduceMod, Nat.reduceBEq, and_true, true_and, and_false, false_and, and_self, ite_true, ite_false, if_true, if_false, reduceIte, eq_self, not_true, not_false_eq_true, Bool.true_and, Bool.and_true, Bool.false_and, Bool.and_false, Bool.or_true, Bool.true_or, Bool.or_false, Bool.false_or, Bool.not_true, Bool.not_false, reduceCtorEq, upd_e, Nat.add_eq_zero_iff, Nat.add_right_cancel_iff, Nat.add_left_cancel_iff, decide_true, decide_false, Bool.false_eq_true, decide_eq_true_eq, show ¬ x < 1 by omega, show ¬ 60 < x by omega, show ¬ y < 0 by omega, show y ≤ 1 by omega]
      exact e1
    · simp (disch := omega) only [fX6_boat, stp_s, bd_s, bd2_s, gd_t, gd_in, clampN, fa_lit, ofN, nI_add, pk_mul, leN, ltN, eqN, eqNg, gNeq, gNlt, gNle, ltNg, leNg, gg, mI_sI, mI_sL, mI_sP, mI_sA, mI_sB, mL_sI, mL_sL, mL_sP, mL_sA, mL_sB, mP_sI, mP_sL, mP_sP, mP_sA, mP_sB, mA_sI, mA_sL, mA_sP, mA_sAg, mA_sB, mB_sI, mB_sL, mB_sP, mB_sA, mB_sBg, mE_sI, mE_sL, mE_sP, mE_sA, mE_sB, Nat.reduceEqDiff, Nat.reduceAdd, Nat.reduceMul, Nat.reduceSub, Nat.reduceLT, Nat.reduceLeDiff, Nat.reduceDiv, Nat.reduceMod, Nat.reduceBEq, and_true, true_and, and_false, false_and, and_self, ite_true, ite_false, if_true, if_false, reduceIte, eq_self, not_true, not_false_eq_true, Bool.true_and, Bool.and_true, Bool.false_and, Bool.and_false, Bool.or_true, Bool.true_or, Bool.or_false, Bool.false_or, Bool.not_true, Bool.not_false, reduceCtorEq, upd_e, Nat.add_eq_zero_iff, Nat.add_right_cancel_iff, Nat.add_left_cancel_iff, decide_true, decide_false, Bool.false_eq_true, decide_eq_true_eq, inr_yes]
      exact e2
