/-! what is known of the past -/
def pushH (Y : HV) (N : NV) : HV := if Y.1 = 10 then (10, fun i => if i < 9 then Y.2 (i + 1) else N) else (Y.1 + 1, fun i => if i < Y.1 then Y.2 i else N)
def pushA (A : AS) : AS := wH A (pushH (aH A) (aN A))
theorem pushA_ok {A : AS} (ok : AOK A) : AOK (pushA A) := by
  obtain ⟨o1, o2, o3, o4, o5, o6, o7⟩ := ok
  refine ⟨o1, o2, o3, o4, ?_, fun i hi => ?_, o7⟩
  · show (pushH (aH A) (aN A)).1 ≤ 10
    unfold pushH
    split
    · exact Nat.le_refl 10
    · show (aH A).1 + 1 ≤ 10; omega
  · have hi : i < (pushH (aH A) (aN A)).1 := hi
    show NOK ((pushH (aH A) (aN A)).2 i) _ _
    unfold pushH at hi ⊢
    split at hi
    · rename_i e
      rw [if_pos e]
      show NOK (if i < 9 then (aH A).2 (i + 1) else aN A) _ _
      have hi : i < 10 := hi
      split
      · exact o6 _ (by omega)
      · exact o3
    · rename_i e
      rw [if_neg e]
      show NOK (if i < (aH A).1 then (aH A).2 i else aN A) _ _
      split
      · exact o6 _ (by assumption)
      · exact o3
theorem C_rem {σ : Mem} {q q2 : Nat} {A : AS} (ok : AOK A) (hC : CSq σ q q2 A) : ∃ σ', fX0_remember σ 5 4 = some σ' ∧ CSq σ' q q2 (pushA A) := by
  obtain ⟨h1, h2, h3, h4, h5, ⟨x, hx, hk, hn, hh⟩, h7, h8⟩ := id hC
  have hq := hC.q
  have hk10 := ok.2.2.2.2.1
  obtain ⟨σ', e, n', nx, kn', hs⟩ := h4.remember hn hx hk hk10 (h1.2.2.2.2.2.2.2.2 x hx)
  refine ⟨σ', e, h1.keep hs (fun k hk => by omega) ⟨by omega, by omega⟩, h2.keep hs (fun k => by omega), h3.keep hs ⟨by omega, by omega⟩, h4.keep hs (fun k => by omega), h5.keep hs (by omega) (fun j hj k => by omega), ?_, h7.keep hs ⟨by omega, by omega, by omega⟩, by rw [(hs 0 13 (by omega)).2.1]; exact h8⟩
  show HC σ' (pushH (aH A) (aN A))
  unfold pushH
  by_cases e10 : (aH A).1 = 10
  · rw [if_pos e10]
    refine ⟨if x = 9 then 0 else x + 1, by split <;> omega, by rw [kn', if_pos e10], nx, fun i hi => ?_⟩
    have hi : i < 10 := hi
    show NC σ' (9 + ((if x = 9 then 0 else x + 1) + 10 - 10 + i) % 10) (if i < 9 then (aH A).2 (i + 1) else aN A)
    by_cases e9 : i < 9
    · rw [if_pos e9]
      have ho := hh (i + 1) (by omega)
      rw [e10] at ho
      have ei : ((if x = 9 then 0 else x + 1) + 10 - 10 + i) % 10 = (x + 10 - 10 + (i + 1)) % 10 := by split <;> omega
      rw [ei]
      exact ho.keep hs (fun k => by omega)
    · rw [if_neg e9]
      have ei : ((if x = 9 then 0 else x + 1) + 10 - 10 + i) % 10 = x := by split <;> omega
      rw [ei]
      exact n'
  · rw [if_neg e10]
    refine ⟨if x = 9 then 0 else x + 1, by split <;> omega, by rw [kn', if_neg e10], nx, fun i hi => ?_⟩
    have hi : i < (aH A).1 + 1 := hi
    show NC σ' (9 + ((if x = 9 then 0 else x + 1) + 10 - ((aH A).1 + 1) + i) % 10) (if i < (aH A).1 then (aH A).2 i else aN A)
    by_cases e9 : i < (aH A).1
    · rw [if_pos e9]
      have ho := hh i e9
      have ei : ((if x = 9 then 0 else x + 1) + 10 - ((aH A).1 + 1) + i) % 10 = (x + 10 - (aH A).1 + i) % 10 := by split <;> omega
      rw [ei]
      exact ho.keep hs (fun k => by omega)
    · rw [if_neg e9]
      have ei : ((if x = 9 then 0 else x + 1) + 10 - ((aH A).1 + 1) + i) % 10 = x := by split <;> omega
      rw [ei]
      exact n'
theorem M_rem51 {kn : Nat} (hk : kn < 10) : ∀ (d i n : Nat) (τ : Mem), mI τ 0 9 = nI kn → i + d = 26 → d < n → ∃ τ', fX6_remembers_51 0 n τ (nI i) = some τ' ∧ mI τ' 0 9 = nI (kn + 1) ∧ (∀ k, mA τ' 0 8 k = if 26 * kn + i ≤ k ∧ k < 26 * kn + 26 then mA τ 0 7 (k - 26 * kn) else mA τ 0 8 k) ∧ sameX (fun _ k => k = 8 ∨ k = 9) τ τ' := by
  intro d
  induction d with
  | zero =>
    intro i n τ h9 hi hn
    obtain ⟨n, rfl⟩ : ∃ m, n = m + 1 := ⟨n - 1, by omega⟩
    refine exS (by simp (disch := omega) only [fX6_remembers_51, stp_s, bd_s, bd2_s, gd_t, gd_in, clampN, fa_lit, ofN, nI_add, pk_mul, leN, ltN, eqN, eqNg, gNeq, gNlt, gNle, ltNg, leNg, gg, mI_sI, mI_sL, mI_sP, mI_sA, mI_sB, mL_sI, mL_sL, mL_sP, mL_sA, mL_sB, mP_sI, mP_sL, mP_sP, mP_sA, mP_sB, mA_sI, mA_sL, mA_sP, mA_sAg, mA_sB, mB_sI, mB_sL, mB_sP, mB_sA, mB_sBg, mE_sI, mE_sL, mE_sP, mE_sA, mE_sB, Nat.reduceEqDiff, Nat.reduceAdd, Nat.reduceMul, Nat.reduceSub, Nat.reduceLT, Nat.reduceLeDiff, Nat.reduceDiv, Nat.reduceMod, Nat.reduceBEq, and_true, true_and, and_false, false_and, and_self, ite_true, ite_false, if_true, if_false, reduceIte, eq_self, not_true, not_false_eq_true, Bool.true_and, Bool.and_true, Bool.false_and, Bool.and_false, Bool.or_true, Bool.true_or, Bool.or_false, Bool.false_or, Bool.not_true, Bool.not_false, reduceCtorEq, upd_e, Nat.add_eq_zero_iff, Nat.add_right_cancel_iff, Nat.add_left_cancel_iff, decide_true, decide_false, Bool.false_eq_true, decide_eq_true_eq, h9, show 26 ≤ i by omega]; rfl) ⟨?_, fun k => ?_, ?_⟩
    · simp only [mI_sI, mI_sL, mI_sP, mI_sA, mI_sB, mL_sI, mL_sL, mL_sP, mL_sA, mL_sB, mP_sI, mP_sL, mP_sP, mP_sA, mP_sB, mA_sI, mA_sL, mA_sP, mA_sAg, mA_sB, mB_sI, mB_sL, mB_sP, mB_sA, mB_sBg, mE_sI, mE_sL, mE_sP, mE_sA, mE_sB, Nat.reduceEqDiff, Nat.reduceAdd, Nat.reduceMul, Nat.reduceSub, Nat.reduceLT, Nat.reduceLeDiff, Nat.reduceDiv, Nat.reduceMod, Nat.reduceBEq, and_true, true_and, and_false, false_and, and_self, ite_true, ite_false, if_true, if_false, reduceIte, eq_self, not_true, not_false_eq_true, Bool.true_and, Bool.and_true, Bool.false_and, Bool.and_false, Bool.or_true, Bool.true_or, Bool.or_false, Bool.false_or, Bool.not_true, Bool.not_false, reduceCtorEq, upd_e, Nat.add_eq_zero_iff, Nat.add_right_cancel_iff, Nat.add_left_cancel_iff]
    · simp only [mI_sI, mI_sL, mI_sP, mI_sA, mI_sB, mL_sI, mL_sL, mL_sP, mL_sA, mL_sB, mP_sI, mP_sL, mP_sP, mP_sA, mP_sB, mA_sI, mA_sL, mA_sP, mA_sAg, mA_sB, mB_sI, mB_sL, mB_sP, mB_sA, mB_sBg, mE_sI, mE_sL, mE_sP, mE_sA, mE_sB, Nat.reduceEqDiff, Nat.reduceAdd, Nat.reduceMul, Nat.reduceSub, Nat.reduceLT, Nat.reduceLeDiff, Nat.reduceDiv, Nat.reduceMod, Nat.reduceBEq, and_true, true_and, and_false, false_and, and_self, ite_true, ite_false, if_true, if_false, reduceIte, eq_self, not_true, not_false_eq_true, Bool.true_and, Bool.and_true, Bool.false_and, Bool.and_false, Bool.or_true, Bool.true_or, Bool.or_false, Bool.false_or, Bool.not_true, Bool.not_false, reduceCtorEq, upd_e, Nat.add_eq_zero_iff, Nat.add_right_cancel_iff, Nat.add_left_cancel_iff]
      rw [if_neg (by omega)]
    · repeat (first | exact sameX.rf | refine sameX.sI ?_ (by first | rfl | exact Or.inl rfl | exact Or.inr rfl | trivial | decide | omega | simp) _ | refine sameX.sA ?_ (by first | rfl | exact Or.inl rfl | exact Or.inr rfl | trivial | decide | omega | simp) _ _ | refine sameX.sL ?_ (by first | rfl | exact Or.inl rfl | exact Or.inr rfl | trivial | decide | omega | simp) _ | refine sameX.sP ?_ (by first | rfl | exact Or.inl rfl | exact Or.inr rfl | trivial | decide | omega | simp) _ | refine sameX.sB ?_ (by first | rfl | exact Or.inl rfl | exact Or.inr rfl | trivial | decide | omega | simp) _ _)
  | succ d ih =>
    intro i n τ h9 hi hn
    obtain ⟨n, rfl⟩ : ∃ m, n = m + 1 := ⟨n - 1, by omega⟩
    obtain ⟨τ', e, k9, ha, hs⟩ := ih (i + 1) n (sA τ 0 8 (26 * kn + i) (mA τ 0 7 i)) (by simp only [mI_sI, mI_sL, mI_sP, mI_sA, mI_sB, mL_sI, mL_sL, mL_sP, mL_sA, mL_sB, mP_sI, mP_sL, mP_sP, mP_sA, mP_sB, mA_sI, mA_sL, mA_sP, mA_sAg, mA_sB, mB_sI, mB_sL, mB_sP, mB_sA, mB_sBg, mE_sI, mE_sL, mE_sP, mE_sA, mE_sB]; exact h9) (by omega) (by omega)
    refine ⟨τ', ?_, k9, fun k => ?_, ?_⟩
    · simp (disch := omega) only [fX6_remembers_51, stp_s, bd_s, bd2_s, gd_t, gd_in, clampN, fa_lit, ofN, nI_add, pk_mul, leN, ltN, eqN, eqNg, gNeq, gNlt, gNle, ltNg, leNg, gg, mI_sI, mI_sL, mI_sP, mI_sA, mI_sB, mL_sI, mL_sL, mL_sP, mL_sA, mL_sB, mP_sI, mP_sL, mP_sP, mP_sA, mP_sB, mA_sI, mA_sL, mA_sP, mA_sAg, mA_sB, mB_sI, mB_sL, mB_sP, mB_sA, mB_sBg, mE_sI, mE_sL, mE_sP, mE_sA, mE_sB, Nat.reduceEqDiff, Nat.reduceAdd, Nat.reduceMul, Nat.reduceSub, Nat.reduceLT, Nat.reduceLeDiff, Nat.reduceDiv, Nat.reduceMod, Nat.reduceBEq, and_true, true_and, and_false, false_and, and_self, ite_true, ite_false, if_true, if_false, reduceIte, eq_self, not_true, not_false_eq_true, Bool.true_and, Bool.and_true, Bool.false_and, Bool.and_false, Bool.or_true, Bool.true_or, Bool.or_false, Bool.false_or, Bool.not_true, Bool.not_false, reduceCtorEq, upd_e, Nat.add_eq_zero_iff, Nat.add_right_cancel_iff, Nat.add_left_cancel_iff, decide_true, decide_false, Bool.false_eq_true, decide_eq_true_eq, h9, show ¬ 26 ≤ i by omega]
      exact e
    · rw [ha k]
      simp only [mI_sI, mI_sL, mI_sP, mI_sA, mI_sB, mL_sI, mL_sL, mL_sP, mL_sA, mL_sB, mP_sI, mP_sL, mP_sP, mP_sA, mP_sB, mA_sI, mA_sL, mA_sP, mA_sAg, mA_sB, mB_sI, mB_sL, mB_sP, mB_sA, mB_sBg, mE_sI, mE_sL, mE_sP, mE_sA, mE_sB, Nat.reduceEqDiff, Nat.reduceAdd, Nat.reduceMul, Nat.reduceSub, Nat.reduceLT, Nat.reduceLeDiff, Nat.reduceDiv, Nat.reduceMod, Nat.reduceBEq, and_true, true_and, and_false, false_and, and_self, ite_true, ite_false, if_true, if_false, reduceIte, eq_self, not_true, not_false_eq_true, Bool.true_and, Bool.and_true, Bool.false_and, Bool.and_false, Bool.or_true, Bool.true_or, Bool.or_false, Bool.false_or, Bool.not_true, Bool.not_false, reduceCtorEq, upd_e, Nat.add_eq_zero_iff, Nat.add_right_cancel_iff, Nat.add_left_cancel_iff]
      by_cases e1 : 26 * kn + (i + 1) ≤ k ∧ k < 26 * kn + 26
      · rw [if_pos e1, if_pos (by omega)]
      · rw [if_neg e1]
        by_cases e2 : k = 26 * kn + i
        · rw [if_pos e2, if_pos (by omega), e2, Nat.add_sub_cancel_left]
        · rw [if_neg e2, if_neg (by omega)]
    · exact sameX.tr (by repeat (first | exact sameX.rf | refine sameX.sI ?_ (by first | rfl | exact Or.inl rfl | exact Or.inr rfl | trivial | decide | omega | simp) _ | refine sameX.sA ?_ (by first | rfl | exact Or.inl rfl | exact Or.inr rfl | trivial | decide | omega | simp) _ _ | refine sameX.sL ?_ (by first | rfl | exact Or.inl rfl | exact Or.inr rfl | trivial | decide | omega | simp) _ | refine sameX.sP ?_ (by first | rfl | exact Or.inl rfl | exact Or.inr rfl | trivial | decide | omega | simp) _ | refine sameX.sB ?_ (by first | rfl | exact Or.inl rfl | exact Or.inr rfl | trivial | decide | omega | simp) _ _)) hs
theorem M_rem11 : ∀ (d i n : Nat) (τ : Mem), i + d = 234 → d < n → ∃ τ', fX6_remembers_11 0 n τ (nI i) = fX6_remembers_51 0 FU (sI τ' 0 9 (mI τ 0 9 - 1)) 0 ∧ (∀ k, mA τ' 0 8 k = if i ≤ k ∧ k < 234 then mA τ 0 8 (k + 26) else mA τ 0 8 k) ∧ sameX (fun _ k => k = 8) τ τ' := by
  intro d
  induction d with
  | zero =>
    intro i n τ hi hn
    obtain ⟨n, rfl⟩ : ∃ m, n = m + 1 := ⟨n - 1, by omega⟩
    refine ⟨τ, ?_, fun k => by rw [if_neg (by omega)], sameX.rf⟩
    rw [fX6_remembers_11.eq_2, show (234 : Int32) = nI 234 from rfl, iteLE (by omega) (by omega), if_pos (by omega)]
    rfl
  | succ d ih =>
    intro i n τ hi hn
    obtain ⟨n, rfl⟩ : ∃ m, n = m + 1 := ⟨n - 1, by omega⟩
    obtain ⟨τ', e, ha, hs⟩ := ih (i + 1) n (sA τ 0 8 i (mA τ 0 8 (i + 26))) (by omega) (by omega)
    refine ⟨τ', ?_, fun k => ?_, sameX.tr (by repeat (first | exact sameX.rf | refine sameX.sI ?_ (by first | rfl | exact Or.inl rfl | exact Or.inr rfl | trivial | decide | omega | simp) _ | refine sameX.sA ?_ (by first | rfl | exact Or.inl rfl | exact Or.inr rfl | trivial | decide | omega | simp) _ _ | refine sameX.sL ?_ (by first | rfl | exact Or.inl rfl | exact Or.inr rfl | trivial | decide | omega | simp) _ | refine sameX.sP ?_ (by first | rfl | exact Or.inl rfl | exact Or.inr rfl | trivial | decide | omega | simp) _ | refine sameX.sB ?_ (by first | rfl | exact Or.inl rfl | exact Or.inr rfl | trivial | decide | omega | simp) _ _)) hs⟩
    · rw [fX6_remembers_11.eq_2, show (234 : Int32) = nI 234 from rfl, iteLE (by omega) (by omega), if_neg (by omega), show (26 : Int32) = nI 26 from rfl, nI_add, gd_in (by omega) (by decide), gd_in (by omega) (by decide), clampN (by omega), clampN (by omega), stp_s, nI_1, e]
      rfl
    · rw [ha k]
      simp only [mI_sI, mI_sL, mI_sP, mI_sA, mI_sB, mL_sI, mL_sL, mL_sP, mL_sA, mL_sB, mP_sI, mP_sL, mP_sP, mP_sA, mP_sB, mA_sI, mA_sL, mA_sP, mA_sAg, mA_sB, mB_sI, mB_sL, mB_sP, mB_sA, mB_sBg, mE_sI, mE_sL, mE_sP, mE_sA, mE_sB, Nat.reduceEqDiff, Nat.reduceAdd, Nat.reduceMul, Nat.reduceSub, Nat.reduceLT, Nat.reduceLeDiff, Nat.reduceDiv, Nat.reduceMod, Nat.reduceBEq, and_true, true_and, and_false, false_and, and_self, ite_true, ite_false, if_true, if_false, reduceIte, eq_self, not_true, not_false_eq_true, Bool.true_and, Bool.and_true, Bool.false_and, Bool.and_false, Bool.or_true, Bool.true_or, Bool.or_false, Bool.false_or, Bool.not_true, Bool.not_false, reduceCtorEq, upd_e, Nat.add_eq_zero_iff, Nat.add_right_cancel_iff, Nat.add_left_cancel_iff]
      by_cases e1 : i + 1 ≤ k ∧ k < 234
      · rw [if_pos e1, if_neg (by omega), if_pos (by omega)]
      · rw [if_neg e1]
        by_cases e2 : k = i
        · rw [if_pos e2, if_pos (by omega), e2]
        · rw [if_neg e2, if_neg (by omega)]
theorem M_rem {τ : Mem} {A : AS} (ok : AOK A) (hM : MS τ A) : ∃ τ', fX6_remembers τ 0 = some τ' ∧ MS τ' (pushA A) := by
  obtain ⟨h1, h2, h3, h4, ⟨hk, hh⟩, h6, h7⟩ := id hM
  have hk10 := ok.2.2.2.2.1
  have hv5 := ok.2.2.1.2.2.2.2.1
  have fin : ∀ τ', sameX (fun _ k => k = 8 ∨ k = 9) τ τ' → HM τ' (pushH (aH A) (aN A)) → MS τ' (pushA A) := fun τ' hs hH => ⟨h1.keep hs (fun k hk => by omega), h2.keep hs ⟨by omega, by omega⟩, by rw [(hs 0 7 (by omega)).2.2.2.1]; exact h3, h4.keep hs ⟨by omega, by omega⟩, hH, h6.keep hs (fun k _ _ => by omega), by rw [(hs 0 16 (by omega)).2.1]; exact h7⟩
  unfold fX6_remembers
  by_cases e10 : (aH A).1 = 10
  · rw [hk, show (10 : Int32) = nI 10 from rfl, iteE (by omega) (by omega), if_pos e10, l0]
    obtain ⟨τ1, e1, a1, s1⟩ := M_rem11 234 0 FU τ (by omega) (by decide)
    rw [e1]
    have k9 : mI (sI τ1 0 9 (mI τ 0 9 - 1)) 0 9 = nI 9 := by simp only [mI_sI, mI_sL, mI_sP, mI_sA, mI_sB, mL_sI, mL_sL, mL_sP, mL_sA, mL_sB, mP_sI, mP_sL, mP_sP, mP_sA, mP_sB, mA_sI, mA_sL, mA_sP, mA_sAg, mA_sB, mB_sI, mB_sL, mB_sP, mB_sA, mB_sBg, mE_sI, mE_sL, mE_sP, mE_sA, mE_sB, Nat.reduceEqDiff, Nat.reduceAdd, Nat.reduceMul, Nat.reduceSub, Nat.reduceLT, Nat.reduceLeDiff, Nat.reduceDiv, Nat.reduceMod, Nat.reduceBEq, and_true, true_and, and_false, false_and, and_self, ite_true, ite_false, if_true, if_false, reduceIte, eq_self, not_true, not_false_eq_true, Bool.true_and, Bool.and_true, Bool.false_and, Bool.and_false, Bool.or_true, Bool.true_or, Bool.or_false, Bool.false_or, Bool.not_true, Bool.not_false, reduceCtorEq, upd_e, Nat.add_eq_zero_iff, Nat.add_right_cancel_iff, Nat.add_left_cancel_iff]; rw [hk, e10]; rfl
    obtain ⟨τ2, e2, b9, a2, s2⟩ := M_rem51 (kn := 9) (by decide) 26 0 FU (sI τ1 0 9 (mI τ 0 9 - 1)) k9 (by omega) (by decide)
    refine ⟨τ2, e2, fin τ2 ?_ ?_⟩
    · have sa : sameX (fun _ k => k = 8 ∨ k = 9) τ (sI τ1 0 9 (mI τ 0 9 - 1)) := (s1.mono (F' := fun _ k => k = 8 ∨ k = 9) (fun o k h => Or.inl h)).sI (Or.inr rfl) _
      exact sa.tr s2
    · unfold pushH
      rw [if_pos e10]
      refine ⟨b9, fun i hi => ?_⟩
      have hi : i < 10 := hi
      show NM _ (if i < 9 then (aH A).2 (i + 1) else aN A)
      by_cases e9 : i < 9
      · rw [if_pos e9]
        refine (hh (i + 1) (by omega)).of (fun k hk => ?_) (ok.2.2.2.2.2.1 (i + 1) (by omega)).2.2.2.2.1
        rw [a2, if_neg (by omega)]
        simp only [mI_sI, mI_sL, mI_sP, mI_sA, mI_sB, mL_sI, mL_sL, mL_sP, mL_sA, mL_sB, mP_sI, mP_sL, mP_sP, mP_sA, mP_sB, mA_sI, mA_sL, mA_sP, mA_sAg, mA_sB, mB_sI, mB_sL, mB_sP, mB_sA, mB_sBg, mE_sI, mE_sL, mE_sP, mE_sA, mE_sB]
        rw [a1, if_pos (by omega)]
        exact congrArg (mA τ 0 8) (by omega)
      · rw [if_neg e9]
        refine h3.of (fun k hk => ?_) hv5
        rw [a2, if_pos (by omega)]
        simp only [mI_sI, mI_sL, mI_sP, mI_sA, mI_sB, mL_sI, mL_sL, mL_sP, mL_sA, mL_sB, mP_sI, mP_sL, mP_sP, mP_sA, mP_sB, mA_sI, mA_sL, mA_sP, mA_sAg, mA_sB, mB_sI, mB_sL, mB_sP, mB_sA, mB_sBg, mE_sI, mE_sL, mE_sP, mE_sA, mE_sB]
        rw [(s1 0 7 (by omega)).2.2.2.1]
        exact congrArg (mA τ 0 7) (by omega)
  · rw [hk, show (10 : Int32) = nI 10 from rfl, iteE (by omega) (by omega), if_neg e10, l0]
    obtain ⟨τ2, e2, b9, a2, s2⟩ := M_rem51 (kn := (aH A).1) (by omega) 26 0 FU τ hk (by omega) (by decide)
    refine ⟨τ2, e2, fin τ2 s2 ?_⟩
    unfold pushH
    rw [if_neg e10]
    refine ⟨b9, fun i hi => ?_⟩
    have hi : i < (aH A).1 + 1 := hi
    show NM _ (if i < (aH A).1 then (aH A).2 i else aN A)
    by_cases e9 : i < (aH A).1
    · rw [if_pos e9]
      refine (hh i e9).of (fun k hk => ?_) (ok.2.2.2.2.2.1 i e9).2.2.2.2.1
      rw [a2, if_neg (by omega)]
    · rw [if_neg e9]
      refine h3.of (fun k hk => ?_) hv5
      rw [a2, if_pos (by omega)]
      exact congrArg (mA τ 0 7) (by omega)
/-- a block of 26 is copied -/
theorem M_undo22 {kn : Nat} (hk : kn < 10) : ∀ (d i n : Nat) (τ : Mem), mI τ 0 9 = nI kn → i + d = 26 → d < n → ∃ τ', fX6_undo_22 0 n τ (nI i) = some (nI kn, τ') ∧ (∀ k, k < 26 → mA τ' 0 7 k = if i ≤ k then mA τ 0 8 (26 * kn + k) else mA τ 0 7 k) ∧ sameX (fun _ k => k = 7) τ τ' := by
  intro d
  induction d with
  | zero =>
    intro i n τ h9 hi hn
    obtain ⟨n, rfl⟩ : ∃ m, n = m + 1 := ⟨n - 1, by omega⟩
    refine ⟨τ, ?_, fun k hk => by rw [if_neg (by omega)], sameX.rf⟩
    simp (disch := omega) only [fX6_undo_22, stp_s, bd_s, bd2_s, gd_t, gd_in, clampN, fa_lit, ofN, nI_add, pk_mul, leN, ltN, eqN, eqNg, gNeq, gNlt, gNle, ltNg, leNg, gg, mI_sI, mI_sL, mI_sP, mI_sA, mI_sB, mL_sI, mL_sL, mL_sP, mL_sA, mL_sB, mP_sI, mP_sL, mP_sP, mP_sA, mP_sB, mA_sI, mA_sL, mA_sP, mA_sAg, mA_sB, mB_sI, mB_sL, mB_sP, mB_sA, mB_sBg, mE_sI, mE_sL, mE_sP, mE_sA, mE_sB, Nat.reduceEqDiff, Nat.reduceAdd, Nat.reduceMul, Nat.reduceSub, Nat.reduceLT, Nat.reduceLeDiff, Nat.reduceDiv, Nat.reduceMod, Nat.reduceBEq, and_true, true_and, and_false, false_and, and_self, ite_true, ite_false, if_true, if_false, reduceIte, eq_self, not_true, not_false_eq_true, Bool.true_and, Bool.and_true, Bool.false_and, Bool.and_false, Bool.or_true, Bool.true_or, Bool.or_false, Bool.false_or, Bool.not_true, Bool.not_false, reduceCtorEq, upd_e, Nat.add_eq_zero_iff, Nat.add_right_cancel_iff, Nat.add_left_cancel_iff, decide_true, decide_false, Bool.false_eq_true, decide_eq_true_eq, h9, show 26 ≤ i by omega]
  | succ d ih =>
    intro i n τ h9 hi hn
    obtain ⟨n, rfl⟩ : ∃ m, n = m + 1 := ⟨n - 1, by omega⟩
    obtain ⟨τ', e, ha, hs⟩ := ih (i + 1) n (sA τ 0 7 i (mA τ 0 8 (26 * kn + i))) (by simp only [mI_sI, mI_sL, mI_sP, mI_sA, mI_sB, mL_sI, mL_sL, mL_sP, mL_sA, mL_sB, mP_sI, mP_sL, mP_sP, mP_sA, mP_sB, mA_sI, mA_sL, mA_sP, mA_sAg, mA_sB, mB_sI, mB_sL, mB_sP, mB_sA, mB_sBg, mE_sI, mE_sL, mE_sP, mE_sA, mE_sB]; exact h9) (by omega) (by omega)
    refine ⟨τ', ?_, fun k hk => ?_, sameX.tr (by repeat (first | exact sameX.rf | refine sameX.sI ?_ (by first | rfl | exact Or.inl rfl | exact Or.inr rfl | trivial | decide | omega | simp) _ | refine sameX.sA ?_ (by first | rfl | exact Or.inl rfl | exact Or.inr rfl | trivial | decide | omega | simp) _ _ | refine sameX.sL ?_ (by first | rfl | exact Or.inl rfl | exact Or.inr rfl | trivial | decide | omega | simp) _ | refine sameX.sP ?_ (by first | rfl | exact Or.inl rfl | exact Or.inr rfl | trivial | decide | omega | simp) _ | refine sameX.sB ?_ (by first | rfl | exact Or.inl rfl | exact Or.inr rfl | trivial | decide | omega | simp) _ _)) hs⟩
    · simp (disch := omega) only [fX6_undo_22, stp_s, bd_s, bd2_s, gd_t, gd_in, clampN, fa_lit, ofN, nI_add, pk_mul, leN, ltN, eqN, eqNg, gNeq, gNlt, gNle, ltNg, leNg, gg, mI_sI, mI_sL, mI_sP, mI_sA, mI_sB, mL_sI, mL_sL, mL_sP, mL_sA, mL_sB, mP_sI, mP_sL, mP_sP, mP_sA, mP_sB, mA_sI, mA_sL, mA_sP, mA_sAg, mA_sB, mB_sI, mB_sL, mB_sP, mB_sA, mB_sBg, mE_sI, mE_sL, mE_sP, mE_sA, mE_sB, Nat.reduceEqDiff, Nat.reduceAdd, Nat.reduceMul, Nat.reduceSub, Nat.reduceLT, Nat.reduceLeDiff, Nat.reduceDiv, Nat.reduceMod, Nat.reduceBEq, and_true, true_and, and_false, false_and, and_self, ite_true, ite_false, if_true, if_false, reduceIte, eq_self, not_true, not_false_eq_true, Bool.true_and, Bool.and_true, Bool.false_and, Bool.and_false, Bool.or_true, Bool.true_or, Bool.or_false, Bool.false_or, Bool.not_true, Bool.not_false, reduceCtorEq, upd_e, Nat.add_eq_zero_iff, Nat.add_right_cancel_iff, Nat.add_left_cancel_iff, decide_true, decide_false, Bool.false_eq_true, decide_eq_true_eq, h9, show ¬ 26 ≤ i by omega]
      exact e
    · rw [ha k hk]
      simp only [mI_sI, mI_sL, mI_sP, mI_sA, mI_sB, mL_sI, mL_sL, mL_sP, mL_sA, mL_sB, mP_sI, mP_sL, mP_sP, mP_sA, mP_sB, mA_sI, mA_sL, mA_sP, mA_sAg, mA_sB, mB_sI, mB_sL, mB_sP, mB_sA, mB_sBg, mE_sI, mE_sL, mE_sP, mE_sA, mE_sB, Nat.reduceEqDiff, Nat.reduceAdd, Nat.reduceMul, Nat.reduceSub, Nat.reduceLT, Nat.reduceLeDiff, Nat.reduceDiv, Nat.reduceMod, Nat.reduceBEq, and_true, true_and, and_false, false_and, and_self, ite_true, ite_false, if_true, if_false, reduceIte, eq_self, not_true, not_false_eq_true, Bool.true_and, Bool.and_true, Bool.false_and, Bool.and_false, Bool.or_true, Bool.true_or, Bool.or_false, Bool.false_or, Bool.not_true, Bool.not_false, reduceCtorEq, upd_e, Nat.add_eq_zero_iff, Nat.add_right_cancel_iff, Nat.add_left_cancel_iff]
      by_cases e1 : i + 1 ≤ k
      · rw [if_pos e1, if_pos (by omega)]
      · rw [if_neg e1]
        by_cases e2 : k = i
        · rw [if_pos e2, if_pos (by omega), e2]
        · rw [if_neg e2, if_neg (by omega)]
theorem op_undo {σ τ : Mem} (h : Rel σ τ)  : ∃ (r : Int32) (σ' : Mem) (τ' : Mem), fX5_undo σ 0  = some (r, σ') ∧ fX6_undo τ 0  = some (r, τ') ∧ Rel σ' τ' := by
  obtain ⟨A, q, q2, ok, hC, hM⟩ := id h
  obtain ⟨h1, h2, h3, h4, h5, ⟨x, hx, hk, hn, hh⟩, h7, h8⟩ := id hC
  have hq := hC.q
  have hP3 : mP σ 0 3 = 4 := hC.1.2.1
  have hP4 : mP σ 0 4 = 5 := hC.1.2.2.1
  have hk10 := ok.2.2.2.2.1
  have hmk := hM.2.2.2.2.1.1
  by_cases e0 : (aH A).1 = 0
  · refine ⟨-2, σ, τ, ?_, ?_, h⟩
    · simp (disch := omega) only [fX5_undo, stp_s, bd_s, bd2_s, gd_t, gd_in, clampN, fa_lit, ofN, nI_add, pk_mul, leN, ltN, eqN, eqNg, gNeq, gNlt, gNle, ltNg, leNg, gg, mI_sI, mI_sL, mI_sP, mI_sA, mI_sB, mL_sI, mL_sL, mL_sP, mL_sA, mL_sB, mP_sI, mP_sL, mP_sP, mP_sA, mP_sB, mA_sI, mA_sL, mA_sP, mA_sAg, mA_sB, mB_sI, mB_sL, mB_sP, mB_sA, mB_sBg, mE_sI, mE_sL, mE_sP, mE_sA, mE_sB, Nat.reduceEqDiff, Nat.reduceAdd, Nat.reduceMul, Nat.reduceSub, Nat.reduceLT, Nat.reduceLeDiff, Nat.reduceDiv, Nat.reduceMod, Nat.reduceBEq, and_true, true_and, and_false, false_and, and_self, ite_true, ite_false, if_true, if_false, reduceIte, eq_self, not_true, not_false_eq_true, Bool.true_and, Bool.and_true, Bool.false_and, Bool.and_false, Bool.or_true, Bool.true_or, Bool.or_false, Bool.false_or, Bool.not_true, Bool.not_false, reduceCtorEq, upd_e, Nat.add_eq_zero_iff, Nat.add_right_cancel_iff, Nat.add_left_cancel_iff, decide_true, decide_false, Bool.false_eq_true, decide_eq_true_eq, hP4, hk, e0]
    · simp (disch := omega) only [fX6_undo, stp_s, bd_s, bd2_s, gd_t, gd_in, clampN, fa_lit, ofN, nI_add, pk_mul, leN, ltN, eqN, eqNg, gNeq, gNlt, gNle, ltNg, leNg, gg, mI_sI, mI_sL, mI_sP, mI_sA, mI_sB, mL_sI, mL_sL, mL_sP, mL_sA, mL_sB, mP_sI, mP_sL, mP_sP, mP_sA, mP_sB, mA_sI, mA_sL, mA_sP, mA_sAg, mA_sB, mB_sI, mB_sL, mB_sP, mB_sA, mB_sBg, mE_sI, mE_sL, mE_sP, mE_sA, mE_sB, Nat.reduceEqDiff, Nat.reduceAdd, Nat.reduceMul, Nat.reduceSub, Nat.reduceLT, Nat.reduceLeDiff, Nat.reduceDiv, Nat.reduceMod, Nat.reduceBEq, and_true, true_and, and_false, false_and, and_self, ite_true, ite_false, if_true, if_false, reduceIte, eq_self, not_true, not_false_eq_true, Bool.true_and, Bool.and_true, Bool.false_and, Bool.and_false, Bool.or_true, Bool.true_or, Bool.or_false, Bool.false_or, Bool.not_true, Bool.not_false, reduceCtorEq, upd_e, Nat.add_eq_zero_iff, Nat.add_right_cancel_iff, Nat.add_left_cancel_iff, decide_true, decide_false, Bool.false_eq_true, decide_eq_true_eq, hmk, e0]
  · obtain ⟨kn, ekn⟩ : ∃ kn, (aH A).1 = kn + 1 := ⟨(aH A).1 - 1, by omega⟩
    have hy : (x + 10 - (aH A).1 + kn) % 10 = if x = 0 then 9 else x - 1 := by split <;> omega
    have hl := hh kn (by omega)
    rw [hy] at hl
    obtain ⟨σ', e, n', nx, kn', hs⟩ := NC.takeBack (kn := kn) rfl hl hn hx (by rw [hk, ekn]) (h1.2.2.2.2.2.2.2.2 _ (by split <;> omega))
    have m9 : mI (sI τ 0 9 (nI kn)) 0 9 = nI kn := by simp only [mI_sI, mI_sL, mI_sP, mI_sA, mI_sB, mL_sI, mL_sL, mL_sP, mL_sA, mL_sB, mP_sI, mP_sL, mP_sP, mP_sA, mP_sB, mA_sI, mA_sL, mA_sP, mA_sAg, mA_sB, mB_sI, mB_sL, mB_sP, mB_sA, mB_sBg, mE_sI, mE_sL, mE_sP, mE_sA, mE_sB, Nat.reduceEqDiff, Nat.reduceAdd, Nat.reduceMul, Nat.reduceSub, Nat.reduceLT, Nat.reduceLeDiff, Nat.reduceDiv, Nat.reduceMod, Nat.reduceBEq, and_true, true_and, and_false, false_and, and_self, ite_true, ite_false, if_true, if_false, reduceIte, eq_self, not_true, not_false_eq_true, Bool.true_and, Bool.and_true, Bool.false_and, Bool.and_false, Bool.or_true, Bool.true_or, Bool.or_false, Bool.false_or, Bool.not_true, Bool.not_false, reduceCtorEq, upd_e, Nat.add_eq_zero_iff, Nat.add_right_cancel_iff, Nat.add_left_cancel_iff]
    obtain ⟨τ', e2, a2, s2⟩ := M_undo22 (kn := kn) (by omega) 26 0 FU (sI τ 0 9 (nI kn)) m9 (by omega) (by decide)
    have okn := ok.2.2.2.2.2.1 kn (by omega)
    refine ⟨nI kn, σ', τ', ?_, ?_, (aI A, aTx A, (aH A).2 kn, aM A, (kn, (aH A).2), aB A, aT A), q, q2, ?_, ?_, ?_⟩
    · have p5 : mP σ' 0 4 = 5 := by rw [(hs 0 4 (by omega)).2.2.1]; exact hP4
      unfold fX5_undo
      rw [hP4, hP3, hk, l0, iteE (by omega) (by omega), if_neg e0, e, bd_s, p5, kn']
    · unfold fX6_undo
      rw [hmk, l0, iteE (by omega) (by omega), if_neg e0, ekn, nI_pred, stp_s]
      exact e2
    · obtain ⟨o1, o2, o3, o4, o5, o6, o7⟩ := ok
      exact ⟨o1, o2, okn, o4, by show kn ≤ 10; omega, fun i hi => o6 i (by have : i < kn := hi; omega), o7⟩
    · refine ⟨h1.keep hs (fun k hk => by omega) ⟨by omega, by omega⟩, h2.keep hs (fun k => by omega), h3.keep hs ⟨by omega, by omega⟩, n', h5.keep hs (by omega) (fun j hj k => by omega), ?_, h7.keep hs ⟨by omega, by omega, by omega⟩, by rw [(hs 0 13 (by omega)).2.1]; exact h8⟩
      refine ⟨if x = 0 then 9 else x - 1, by split <;> omega, kn', nx, fun i hi => ?_⟩
      have hi : i < kn := hi
      have ho := hh i (by omega)
      show NC σ' (9 + ((if x = 0 then 9 else x - 1) + 10 - kn + i) % 10) ((aH A).2 i)
      have ei : ((if x = 0 then 9 else x - 1) + 10 - kn + i) % 10 = (x + 10 - (aH A).1 + i) % 10 := by split <;> omega
      rw [ei]
      exact ho.keep hs (fun k => by omega)
    · obtain ⟨g1, g2, g3, g4, ⟨gk, gh⟩, g6, g7⟩ := id hM
      have sa : sameX (fun _ k => k = 7 ∨ k = 9) τ τ' := by
        have s0 : sameX (fun _ k => k = 7 ∨ k = 9) τ (sI τ 0 9 (nI kn)) := by repeat (first | exact sameX.rf | refine sameX.sI ?_ (by first | rfl | exact Or.inl rfl | exact Or.inr rfl | trivial | decide | omega | simp) _ | refine sameX.sA ?_ (by first | rfl | exact Or.inl rfl | exact Or.inr rfl | trivial | decide | omega | simp) _ _ | refine sameX.sL ?_ (by first | rfl | exact Or.inl rfl | exact Or.inr rfl | trivial | decide | omega | simp) _ | refine sameX.sP ?_ (by first | rfl | exact Or.inl rfl | exact Or.inr rfl | trivial | decide | omega | simp) _ | refine sameX.sB ?_ (by first | rfl | exact Or.inl rfl | exact Or.inr rfl | trivial | decide | omega | simp) _ _)
        exact s0.tr (s2.mono (fun o k h => Or.inl h))
      have m9' : mI τ' 0 9 = nI kn := by rw [(s2 0 9 (by omega)).1]; exact m9
      refine ⟨g1.keep sa (fun k hk => by omega), g2.keep sa ⟨by omega, by omega⟩, ?_, g4.keep sa ⟨by omega, by omega⟩, ⟨m9', fun i hi => ?_⟩, g6.keep sa (fun k _ _ => by omega), by rw [(sa 0 16 (by omega)).2.1]; exact g7⟩
      · refine (gh kn (by omega)).of (fun k hk => ?_) okn.2.2.2.2.1
        rw [a2 k hk, if_pos (Nat.zero_le _)]
        rfl
      · have hi : i < kn := hi
        rw [(sa 0 8 (by omega)).2.2.2.1]
        exact gh i (by omega)
