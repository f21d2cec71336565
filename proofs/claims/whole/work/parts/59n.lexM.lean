/-! the model's tokens -/
def tmk (k : Nat) : Nat := if k = 0 then 0 else if k = 1 then 2 else if k = 2 then 4 else if k = 59 then 3 else 1
abbrev FLm (_o k : Nat) : Prop := 19 ≤ k ∧ k ≤ 22
theorem TM.keepL {τ τ' : Mem} {X : XV} (h : TM τ X) (hs : sameX FLm τ τ') : TM τ' X := h.keep hs ⟨by omega, by omega⟩
theorem M_at {τ : Mem} {X : XV} (hX : XOK X) (hT : TM τ X) {b : Nat} (h : b < X.1) : fX6_letterAt τ 0 (nI b) = some (nI (X.2 b)) := by
  have hL := hX.1
  unfold fX6_letterAt
  rw [hT.1, iteLE (by omega) (by omega), if_neg (by omega), gd_in (show b < 200 by omega) (by decide), clampN (by omega), hT.2 b h]
theorem M_atE {τ : Mem} {X : XV} (hX : XOK X) (hT : TM τ X) {b : Nat} (h : X.1 ≤ b) (hb : b < 100000) : fX6_letterAt τ 0 (nI b) = some (-1) := by
  have hL := hX.1
  unfold fX6_letterAt
  rw [hT.1, iteLE (by omega) (by omega), if_pos h]
theorem M_figY {c : Nat} (hc : isFg c = true) : fX6_in (nI c) (48 : Int32) (57 : Int32) = some 1 := by
  have := of_decide_eq_true hc
  exact inr_yes (a := 48) (b := 57) this.1 this.2 (by decide)
theorem M_figN {c : Nat} (h : c < 256) (hc : ¬ isFg c = true) : fX6_in (nI c) (48 : Int32) (57 : Int32) = some 0 := by
  refine inr_no (a := 48) (b := 57) ?_
  rw [ltN (by omega) (by omega), ltN (by omega) (by omega)]
  rcases Nat.lt_or_ge c 48 with q | q
  · exact Or.inl q
  · rcases Nat.lt_or_ge 57 c with q2 | q2
    · exact Or.inr q2
    · exact absurd (decide_eq_true ⟨q, q2⟩) hc
theorem M_figE : fX6_in (-1 : Int32) (48 : Int32) (57 : Int32) = some 0 := by decide
theorem nVx_lt {X : XV} {s k : Nat} (hk : k ≤ 4) (h : ∀ i, i < k → X.2 (s + i) < 256) : nVx X s k ≤ 300000 := by
  have e : k = 0 ∨ k = 1 ∨ k = 2 ∨ k = 3 ∨ k = 4 := by omega
  rcases e with rfl | rfl | rfl | rfl | rfl
  · exact Nat.zero_le _
  · have h0 := h 0 (by decide)
    show 0 * 10 + (X.2 (s + 0) - 48) ≤ 300000
    omega
  · have h0 := h 0 (by decide); have h1 := h 1 (by decide)
    show (0 * 10 + (X.2 (s + 0) - 48)) * 10 + (X.2 (s + 1) - 48) ≤ 300000
    omega
  · have h0 := h 0 (by decide); have h1 := h 1 (by decide); have h2 := h 2 (by decide)
    show ((0 * 10 + (X.2 (s + 0) - 48)) * 10 + (X.2 (s + 1) - 48)) * 10 + (X.2 (s + 2) - 48) ≤ 300000
    omega
  · have h0 := h 0 (by decide); have h1 := h 1 (by decide); have h2 := h 2 (by decide); have h3 := h 3 (by decide)
    show (((0 * 10 + (X.2 (s + 0) - 48)) * 10 + (X.2 (s + 1) - 48)) * 10 + (X.2 (s + 2) - 48)) * 10 + (X.2 (s + 3) - 48) ≤ 300000
    omega
def nkX (X : XV) (s e : Nat) : Nat := if X.2 s = 48 ∧ 1 < e - s then 2 else if nVx X s (e - s) ≤ 1023 then 1 else 2
theorem M_num_l {X : XV} (hX : XOK X) {s : Nat} (hfs : isFg (X.2 s) = true) : ∀ (r k n : Nat) (τ : Mem), s + k + r = X.1 → r < n → 1 ≤ k → TM τ X → mI τ 0 19 = nI (s + k) → mI τ 0 20 = nI s → mI τ 0 22 = nI (nVx X s (min k 4)) → ∃ τ', fX6_next_136 0 n τ (nI (X.2 s)) = some τ' ∧ mI τ' 0 19 = nI (fgX X (s + k)) ∧ mI τ' 0 20 = nI s ∧ mI τ' 0 21 = nI (tmk (nkX X s (fgX X (s + k)))) ∧ (nkX X s (fgX X (s + k)) = 1 → mI τ' 0 22 = nI (nVx X s (fgX X (s + k) - s))) ∧ sameX FLm τ τ' := by
  have hL := hX.1
  have hfs' := of_decide_eq_true hfs
  -- the end
  have fin : ∀ (k n : Nat) (τ : Mem) (x : Int32), s + k ≤ X.1 → 1 ≤ k → mI τ 0 19 = nI (s + k) → mI τ 0 20 = nI s → mI τ 0 22 = nI (nVx X s (min k 4)) → fX6_letterAt τ 0 (nI (s + k)) = some x → fX6_in x (48 : Int32) (57 : Int32) = some 0 → ∃ τ', fX6_next_136 0 (n + 1) τ (nI (X.2 s)) = some τ' ∧ mI τ' 0 19 = nI (s + k) ∧ mI τ' 0 20 = nI s ∧ mI τ' 0 21 = nI (tmk (nkX X s (s + k))) ∧ (nkX X s (s + k) = 1 → mI τ' 0 22 = nI (nVx X s (s + k - s))) ∧ sameX FLm τ τ' := fun k n τ x hk hk1 h19 h20 h22 ha hin => by
    have hlt := nVx_lt (X := X) (s := s) (k := min k 4) (by omega) (fun i hi => hX.2 (s + i) (by omega))
    have t4 : ∃ τ', fX6_next_257 0 τ 0 = some τ' ∧ mI τ' 0 19 = nI (s + k) ∧ mI τ' 0 20 = nI s ∧ mI τ' 0 21 = nI 4 ∧ sameX FLm τ τ' := by
      refine ⟨sI τ 0 21 (nI 4), rfl, ?_, ?_, ?_, by repeat (first | exact sameX.rf | refine sameX.sI ?_ (by first | rfl | exact Or.inl rfl | exact Or.inr rfl | trivial | decide | omega | simp) _ | refine sameX.sA ?_ (by first | rfl | exact Or.inl rfl | exact Or.inr rfl | trivial | decide | omega | simp) _ _ | refine sameX.sL ?_ (by first | rfl | exact Or.inl rfl | exact Or.inr rfl | trivial | decide | omega | simp) _ | refine sameX.sP ?_ (by first | rfl | exact Or.inl rfl | exact Or.inr rfl | trivial | decide | omega | simp) _ | refine sameX.sB ?_ (by first | rfl | exact Or.inl rfl | exact Or.inr rfl | trivial | decide | omega | simp) _ _)⟩
      · simp only [mI_sI, mI_sL, mI_sP, mI_sA, mI_sB, mL_sI, mL_sL, mL_sP, mL_sA, mL_sB, mP_sI, mP_sL, mP_sP, mP_sA, mP_sB, mA_sI, mA_sL, mA_sP, mA_sAg, mA_sB, mB_sI, mB_sL, mB_sP, mB_sA, mB_sBg, mE_sI, mE_sL, mE_sP, mE_sA, mE_sB, Nat.reduceEqDiff, Nat.reduceAdd, Nat.reduceMul, Nat.reduceSub, Nat.reduceLT, Nat.reduceLeDiff, Nat.reduceDiv, Nat.reduceMod, Nat.reduceBEq, and_true, true_and, and_false, false_and, and_self, ite_true, ite_false, if_true, if_false, reduceIte, eq_self, not_true, not_false_eq_true, Bool.true_and, Bool.and_true, Bool.false_and, Bool.and_false, Bool.or_true, Bool.true_or, Bool.or_false, Bool.false_or, Bool.not_true, Bool.not_false, reduceCtorEq, upd_e, Nat.add_eq_zero_iff, Nat.add_right_cancel_iff, Nat.add_left_cancel_iff]; exact h19
      · simp only [mI_sI, mI_sL, mI_sP, mI_sA, mI_sB, mL_sI, mL_sL, mL_sP, mL_sA, mL_sB, mP_sI, mP_sL, mP_sP, mP_sA, mP_sB, mA_sI, mA_sL, mA_sP, mA_sAg, mA_sB, mB_sI, mB_sL, mB_sP, mB_sA, mB_sBg, mE_sI, mE_sL, mE_sP, mE_sA, mE_sB, Nat.reduceEqDiff, Nat.reduceAdd, Nat.reduceMul, Nat.reduceSub, Nat.reduceLT, Nat.reduceLeDiff, Nat.reduceDiv, Nat.reduceMod, Nat.reduceBEq, and_true, true_and, and_false, false_and, and_self, ite_true, ite_false, if_true, if_false, reduceIte, eq_self, not_true, not_false_eq_true, Bool.true_and, Bool.and_true, Bool.false_and, Bool.and_false, Bool.or_true, Bool.true_or, Bool.or_false, Bool.false_or, Bool.not_true, Bool.not_false, reduceCtorEq, upd_e, Nat.add_eq_zero_iff, Nat.add_right_cancel_iff, Nat.add_left_cancel_iff]; exact h20
      · simp only [mI_sI, mI_sL, mI_sP, mI_sA, mI_sB, mL_sI, mL_sL, mL_sP, mL_sA, mL_sB, mP_sI, mP_sL, mP_sP, mP_sA, mP_sB, mA_sI, mA_sL, mA_sP, mA_sAg, mA_sB, mB_sI, mB_sL, mB_sP, mB_sA, mB_sBg, mE_sI, mE_sL, mE_sP, mE_sA, mE_sB, Nat.reduceEqDiff, Nat.reduceAdd, Nat.reduceMul, Nat.reduceSub, Nat.reduceLT, Nat.reduceLeDiff, Nat.reduceDiv, Nat.reduceMod, Nat.reduceBEq, and_true, true_and, and_false, false_and, and_self, ite_true, ite_false, if_true, if_false, reduceIte, eq_self, not_true, not_false_eq_true, Bool.true_and, Bool.and_true, Bool.false_and, Bool.and_false, Bool.or_true, Bool.true_or, Bool.or_false, Bool.false_or, Bool.not_true, Bool.not_false, reduceCtorEq, upd_e, Nat.add_eq_zero_iff, Nat.add_right_cancel_iff, Nat.add_left_cancel_iff]
    have t2 : ∃ τ', fX6_next_257 0 τ 1 = some τ' ∧ mI τ' 0 19 = nI (s + k) ∧ mI τ' 0 20 = nI s ∧ mI τ' 0 21 = nI 2 ∧ mI τ' 0 22 = mI τ 0 22 ∧ sameX FLm τ τ' := by
      refine ⟨sI τ 0 21 (nI 2), rfl, ?_, ?_, ?_, ?_, by repeat (first | exact sameX.rf | refine sameX.sI ?_ (by first | rfl | exact Or.inl rfl | exact Or.inr rfl | trivial | decide | omega | simp) _ | refine sameX.sA ?_ (by first | rfl | exact Or.inl rfl | exact Or.inr rfl | trivial | decide | omega | simp) _ _ | refine sameX.sL ?_ (by first | rfl | exact Or.inl rfl | exact Or.inr rfl | trivial | decide | omega | simp) _ | refine sameX.sP ?_ (by first | rfl | exact Or.inl rfl | exact Or.inr rfl | trivial | decide | omega | simp) _ | refine sameX.sB ?_ (by first | rfl | exact Or.inl rfl | exact Or.inr rfl | trivial | decide | omega | simp) _ _)⟩
      · simp only [mI_sI, mI_sL, mI_sP, mI_sA, mI_sB, mL_sI, mL_sL, mL_sP, mL_sA, mL_sB, mP_sI, mP_sL, mP_sP, mP_sA, mP_sB, mA_sI, mA_sL, mA_sP, mA_sAg, mA_sB, mB_sI, mB_sL, mB_sP, mB_sA, mB_sBg, mE_sI, mE_sL, mE_sP, mE_sA, mE_sB, Nat.reduceEqDiff, Nat.reduceAdd, Nat.reduceMul, Nat.reduceSub, Nat.reduceLT, Nat.reduceLeDiff, Nat.reduceDiv, Nat.reduceMod, Nat.reduceBEq, and_true, true_and, and_false, false_and, and_self, ite_true, ite_false, if_true, if_false, reduceIte, eq_self, not_true, not_false_eq_true, Bool.true_and, Bool.and_true, Bool.false_and, Bool.and_false, Bool.or_true, Bool.true_or, Bool.or_false, Bool.false_or, Bool.not_true, Bool.not_false, reduceCtorEq, upd_e, Nat.add_eq_zero_iff, Nat.add_right_cancel_iff, Nat.add_left_cancel_iff]; exact h19
      · simp only [mI_sI, mI_sL, mI_sP, mI_sA, mI_sB, mL_sI, mL_sL, mL_sP, mL_sA, mL_sB, mP_sI, mP_sL, mP_sP, mP_sA, mP_sB, mA_sI, mA_sL, mA_sP, mA_sAg, mA_sB, mB_sI, mB_sL, mB_sP, mB_sA, mB_sBg, mE_sI, mE_sL, mE_sP, mE_sA, mE_sB, Nat.reduceEqDiff, Nat.reduceAdd, Nat.reduceMul, Nat.reduceSub, Nat.reduceLT, Nat.reduceLeDiff, Nat.reduceDiv, Nat.reduceMod, Nat.reduceBEq, and_true, true_and, and_false, false_and, and_self, ite_true, ite_false, if_true, if_false, reduceIte, eq_self, not_true, not_false_eq_true, Bool.true_and, Bool.and_true, Bool.false_and, Bool.and_false, Bool.or_true, Bool.true_or, Bool.or_false, Bool.false_or, Bool.not_true, Bool.not_false, reduceCtorEq, upd_e, Nat.add_eq_zero_iff, Nat.add_right_cancel_iff, Nat.add_left_cancel_iff]; exact h20
      · simp only [mI_sI, mI_sL, mI_sP, mI_sA, mI_sB, mL_sI, mL_sL, mL_sP, mL_sA, mL_sB, mP_sI, mP_sL, mP_sP, mP_sA, mP_sB, mA_sI, mA_sL, mA_sP, mA_sAg, mA_sB, mB_sI, mB_sL, mB_sP, mB_sA, mB_sBg, mE_sI, mE_sL, mE_sP, mE_sA, mE_sB, Nat.reduceEqDiff, Nat.reduceAdd, Nat.reduceMul, Nat.reduceSub, Nat.reduceLT, Nat.reduceLeDiff, Nat.reduceDiv, Nat.reduceMod, Nat.reduceBEq, and_true, true_and, and_false, false_and, and_self, ite_true, ite_false, if_true, if_false, reduceIte, eq_self, not_true, not_false_eq_true, Bool.true_and, Bool.and_true, Bool.false_and, Bool.and_false, Bool.or_true, Bool.true_or, Bool.or_false, Bool.false_or, Bool.not_true, Bool.not_false, reduceCtorEq, upd_e, Nat.add_eq_zero_iff, Nat.add_right_cancel_iff, Nat.add_left_cancel_iff]
      · simp only [mI_sI, mI_sL, mI_sP, mI_sA, mI_sB, mL_sI, mL_sL, mL_sP, mL_sA, mL_sB, mP_sI, mP_sL, mP_sP, mP_sA, mP_sB, mA_sI, mA_sL, mA_sP, mA_sAg, mA_sB, mB_sI, mB_sL, mB_sP, mB_sA, mB_sBg, mE_sI, mE_sL, mE_sP, mE_sA, mE_sB, Nat.reduceEqDiff, Nat.reduceAdd, Nat.reduceMul, Nat.reduceSub, Nat.reduceLT, Nat.reduceLeDiff, Nat.reduceDiv, Nat.reduceMod, Nat.reduceBEq, and_true, true_and, and_false, false_and, and_self, ite_true, ite_false, if_true, if_false, reduceIte, eq_self, not_true, not_false_eq_true, Bool.true_and, Bool.and_true, Bool.false_and, Bool.and_false, Bool.or_true, Bool.true_or, Bool.or_false, Bool.false_or, Bool.not_true, Bool.not_false, reduceCtorEq, upd_e, Nat.add_eq_zero_iff, Nat.add_right_cancel_iff, Nat.add_left_cancel_iff]
    have bad : nkX X s (s + k) = 2 → ∃ τ', fX6_next_257 0 τ 0 = some τ' ∧ mI τ' 0 19 = nI (s + k) ∧ mI τ' 0 20 = nI s ∧ mI τ' 0 21 = nI (tmk (nkX X s (s + k))) ∧ (nkX X s (s + k) = 1 → mI τ' 0 22 = nI (nVx X s (s + k - s))) ∧ sameX FLm τ τ' := fun h2 => by
      obtain ⟨τ', a1, a2, a3, a4, a5⟩ := t4
      exact ⟨τ', a1, a2, a3, by rw [h2]; exact a4, fun q => by rw [h2] at q; exact absurd q (by decide), a5⟩
    have good : nkX X s (s + k) = 1 → k ≤ 4 → ∃ τ', fX6_next_257 0 τ 1 = some τ' ∧ mI τ' 0 19 = nI (s + k) ∧ mI τ' 0 20 = nI s ∧ mI τ' 0 21 = nI (tmk (nkX X s (s + k))) ∧ (nkX X s (s + k) = 1 → mI τ' 0 22 = nI (nVx X s (s + k - s))) ∧ sameX FLm τ τ' := fun h2 hk4 => by
      obtain ⟨τ', a1, a2, a3, a4, a5, a6⟩ := t2
      exact ⟨τ', a1, a2, a3, by rw [h2]; exact a4, fun _ => by rw [a5, h22, Nat.add_sub_cancel_left, Nat.min_eq_left hk4], a6⟩
    have ek : s + k - s = k := by omega
    rw [ek] at bad good
    rw [fX6_next_136.eq_2, h19, ha, bd_s, hin, bd_s, if_pos rfl, h20, pk_sub (by omega), ek, show (5 : Int32) = nI 5 from rfl, iteLE (by omega) (by omega)]
    by_cases e5 : 5 ≤ k
    · rw [if_pos e5]
      refine bad ?_
      unfold nkX
      rw [ek]
      by_cases e48 : X.2 s = 48
      · rw [if_pos ⟨e48, by omega⟩]
      · have hb := nVx_big (X := X) (s := s) (by omega) (k - 5)
        rw [show k - 5 + 5 = k by omega] at hb
        rw [if_neg (fun q => e48 q.1), if_neg (by omega)]
    · rw [if_neg e5, h22, fa_lit 1024, iteLE (by omega) (by omega)]
      have em : min k 4 = k := by omega
      rw [em]
      by_cases ev : 1024 ≤ nVx X s k
      · rw [if_pos ev]
        refine bad ?_
        unfold nkX
        rw [ek]
        split
        · rfl
        · rw [if_neg (by omega)]
      · rw [if_neg ev, show (48 : Int32) = nI 48 from rfl, iteE (by omega) (by omega)]
        by_cases e48 : X.2 s = 48
        · rw [if_pos e48, l1, iteE (by omega) (by omega)]
          by_cases e1 : k = 1
          · rw [if_pos e1]
            refine good ?_ (by omega)
            unfold nkX
            rw [ek, if_neg (fun q => by omega), if_pos (by omega)]
          · rw [if_neg e1]
            refine bad ?_
            unfold nkX
            rw [ek, if_pos ⟨e48, by omega⟩]
        · rw [if_neg e48]
          refine good ?_ (by omega)
          unfold nkX
          rw [ek, if_neg (fun q => e48 q.1), if_pos (by omega)]
  intro r
  induction r with
  | zero =>
    intro k n τ hk hn hk1 hT h19 h20 h22
    obtain ⟨n, rfl⟩ : ∃ m, n = m + 1 := ⟨n - 1, by omega⟩
    have ef : fgX X (s + k) = s + k := fgX_n (by omega)
    rw [ef]
    exact fin k n τ (-1) (by omega) hk1 h19 h20 h22 (M_atE hX hT (by omega) (by omega)) M_figE
  | succ r ih =>
    intro k n τ hk hn hk1 hT h19 h20 h22
    obtain ⟨n, rfl⟩ : ∃ m, n = m + 1 := ⟨n - 1, by omega⟩
    have hf := hX.2 (s + k) (by omega)
    have ha := M_at hX hT (b := s + k) (by omega)
    by_cases e : isFg (X.2 (s + k)) = true
    · have e48 := of_decide_eq_true e
      have ef : fgX X (s + k) = fgX X (s + (k + 1)) := fgX_y (by omega) e
      have ek : s + k - s = k := by omega
      have hlt := nVx_lt (X := X) (s := s) (k := min k 4) (by omega) (fun i hi => hX.2 (s + i) (by omega))
      rw [ef, fX6_next_136.eq_2, h19, ha, bd_s, M_figY e, bd_s, if_neg (show ¬ (1 : Int32) = 0 by decide), h20, pk_sub (by omega), ek, show (4 : Int32) = nI 4 from rfl, iteLE (by omega) (by omega)]
      have go : ∀ v : Nat, v = nVx X s (min (k + 1) 4) → ∃ τ', fX6_next_136 0 n (sI (sI τ 0 22 (nI v)) 0 19 (nI (s + k + 1))) (nI (X.2 s)) = some τ' ∧ mI τ' 0 19 = nI (fgX X (s + (k + 1))) ∧ mI τ' 0 20 = nI s ∧ mI τ' 0 21 = nI (tmk (nkX X s (fgX X (s + (k + 1))))) ∧ (nkX X s (fgX X (s + (k + 1))) = 1 → mI τ' 0 22 = nI (nVx X s (fgX X (s + (k + 1)) - s))) ∧ sameX FLm τ τ' := fun v hv => by
        have hs : sameX FLm τ (sI (sI τ 0 22 (nI v)) 0 19 (nI (s + k + 1))) := by repeat (first | exact sameX.rf | refine sameX.sI ?_ (by first | rfl | exact Or.inl rfl | exact Or.inr rfl | trivial | decide | omega | simp) _ | refine sameX.sA ?_ (by first | rfl | exact Or.inl rfl | exact Or.inr rfl | trivial | decide | omega | simp) _ _ | refine sameX.sL ?_ (by first | rfl | exact Or.inl rfl | exact Or.inr rfl | trivial | decide | omega | simp) _ | refine sameX.sP ?_ (by first | rfl | exact Or.inl rfl | exact Or.inr rfl | trivial | decide | omega | simp) _ | refine sameX.sB ?_ (by first | rfl | exact Or.inl rfl | exact Or.inr rfl | trivial | decide | omega | simp) _ _)
        obtain ⟨τ', e1, a1, a2, a3, a4, s1⟩ := ih (k + 1) n (sI (sI τ 0 22 (nI v)) 0 19 (nI (s + k + 1))) (by omega) (by omega) (by omega) (hT.keepL hs) (by simp only [mI_sI, mI_sL, mI_sP, mI_sA, mI_sB, mL_sI, mL_sL, mL_sP, mL_sA, mL_sB, mP_sI, mP_sL, mP_sP, mP_sA, mP_sB, mA_sI, mA_sL, mA_sP, mA_sAg, mA_sB, mB_sI, mB_sL, mB_sP, mB_sA, mB_sBg, mE_sI, mE_sL, mE_sP, mE_sA, mE_sB, Nat.reduceEqDiff, Nat.reduceAdd, Nat.reduceMul, Nat.reduceSub, Nat.reduceLT, Nat.reduceLeDiff, Nat.reduceDiv, Nat.reduceMod, Nat.reduceBEq, and_true, true_and, and_false, false_and, and_self, ite_true, ite_false, if_true, if_false, reduceIte, eq_self, not_true, not_false_eq_true, Bool.true_and, Bool.and_true, Bool.false_and, Bool.and_false, Bool.or_true, Bool.true_or, Bool.or_false, Bool.false_or, Bool.not_true, Bool.not_false, reduceCtorEq, upd_e, Nat.add_eq_zero_iff, Nat.add_right_cancel_iff, Nat.add_left_cancel_iff]; rfl) (by simp only [mI_sI, mI_sL, mI_sP, mI_sA, mI_sB, mL_sI, mL_sL, mL_sP, mL_sA, mL_sB, mP_sI, mP_sL, mP_sP, mP_sA, mP_sB, mA_sI, mA_sL, mA_sP, mA_sAg, mA_sB, mB_sI, mB_sL, mB_sP, mB_sA, mB_sBg, mE_sI, mE_sL, mE_sP, mE_sA, mE_sB, Nat.reduceEqDiff, Nat.reduceAdd, Nat.reduceMul, Nat.reduceSub, Nat.reduceLT, Nat.reduceLeDiff, Nat.reduceDiv, Nat.reduceMod, Nat.reduceBEq, and_true, true_and, and_false, false_and, and_self, ite_true, ite_false, if_true, if_false, reduceIte, eq_self, not_true, not_false_eq_true, Bool.true_and, Bool.and_true, Bool.false_and, Bool.and_false, Bool.or_true, Bool.true_or, Bool.or_false, Bool.false_or, Bool.not_true, Bool.not_false, reduceCtorEq, upd_e, Nat.add_eq_zero_iff, Nat.add_right_cancel_iff, Nat.add_left_cancel_iff]; exact h20) (by simp only [mI_sI, mI_sL, mI_sP, mI_sA, mI_sB, mL_sI, mL_sL, mL_sP, mL_sA, mL_sB, mP_sI, mP_sL, mP_sP, mP_sA, mP_sB, mA_sI, mA_sL, mA_sP, mA_sAg, mA_sB, mB_sI, mB_sL, mB_sP, mB_sA, mB_sBg, mE_sI, mE_sL, mE_sP, mE_sA, mE_sB, Nat.reduceEqDiff, Nat.reduceAdd, Nat.reduceMul, Nat.reduceSub, Nat.reduceLT, Nat.reduceLeDiff, Nat.reduceDiv, Nat.reduceMod, Nat.reduceBEq, and_true, true_and, and_false, false_and, and_self, ite_true, ite_false, if_true, if_false, reduceIte, eq_self, not_true, not_false_eq_true, Bool.true_and, Bool.and_true, Bool.false_and, Bool.and_false, Bool.or_true, Bool.true_or, Bool.or_false, Bool.false_or, Bool.not_true, Bool.not_false, reduceCtorEq, upd_e, Nat.add_eq_zero_iff, Nat.add_right_cancel_iff, Nat.add_left_cancel_iff]; rw [hv])
        exact ⟨τ', e1, a1, a2, a3, a4, hs.tr s1⟩
      by_cases e4 : 4 ≤ k
      · have h19' : mI (sI τ 0 22 (mI τ 0 22)) 0 19 = nI (s + k) := by simp only [mI_sI, mI_sL, mI_sP, mI_sA, mI_sB, mL_sI, mL_sL, mL_sP, mL_sA, mL_sB, mP_sI, mP_sL, mP_sP, mP_sA, mP_sB, mA_sI, mA_sL, mA_sP, mA_sAg, mA_sB, mB_sI, mB_sL, mB_sP, mB_sA, mB_sBg, mE_sI, mE_sL, mE_sP, mE_sA, mE_sB, Nat.reduceEqDiff, Nat.reduceAdd, Nat.reduceMul, Nat.reduceSub, Nat.reduceLT, Nat.reduceLeDiff, Nat.reduceDiv, Nat.reduceMod, Nat.reduceBEq, and_true, true_and, and_false, false_and, and_self, ite_true, ite_false, if_true, if_false, reduceIte, eq_self, not_true, not_false_eq_true, Bool.true_and, Bool.and_true, Bool.false_and, Bool.and_false, Bool.or_true, Bool.true_or, Bool.or_false, Bool.false_or, Bool.not_true, Bool.not_false, reduceCtorEq, upd_e, Nat.add_eq_zero_iff, Nat.add_right_cancel_iff, Nat.add_left_cancel_iff]; exact h19
        rw [if_pos e4, stp_s, stp_s, h19', nI_1, h22]
        exact go _ (by rw [Nat.min_eq_right e4, Nat.min_eq_right (by omega)])
      · rw [if_neg e4, bd_s, stp_s, stp_s, h22]
        have em : min k 4 = k := by omega
        have ev : (10 : Int32) * nI (nVx X s (min k 4)) + nI (X.2 (s + k)) - (48 : Int32) = nI (nVx X s (min k 4) * 10 + (X.2 (s + k) - 48)) := by
          rw [show (10 : Int32) = nI 10 from rfl, pk_mul, nI_add, show (48 : Int32) = nI 48 from rfl, pk_sub (by omega)]
          exact congrArg nI (by omega)
        rw [ev]
        have h19' : mI (sI τ 0 22 (nI (nVx X s (min k 4) * 10 + (X.2 (s + k) - 48)))) 0 19 = nI (s + k) := by simp only [mI_sI, mI_sL, mI_sP, mI_sA, mI_sB, mL_sI, mL_sL, mL_sP, mL_sA, mL_sB, mP_sI, mP_sL, mP_sP, mP_sA, mP_sB, mA_sI, mA_sL, mA_sP, mA_sAg, mA_sB, mB_sI, mB_sL, mB_sP, mB_sA, mB_sBg, mE_sI, mE_sL, mE_sP, mE_sA, mE_sB, Nat.reduceEqDiff, Nat.reduceAdd, Nat.reduceMul, Nat.reduceSub, Nat.reduceLT, Nat.reduceLeDiff, Nat.reduceDiv, Nat.reduceMod, Nat.reduceBEq, and_true, true_and, and_false, false_and, and_self, ite_true, ite_false, if_true, if_false, reduceIte, eq_self, not_true, not_false_eq_true, Bool.true_and, Bool.and_true, Bool.false_and, Bool.and_false, Bool.or_true, Bool.true_or, Bool.or_false, Bool.false_or, Bool.not_true, Bool.not_false, reduceCtorEq, upd_e, Nat.add_eq_zero_iff, Nat.add_right_cancel_iff, Nat.add_left_cancel_iff]; exact h19
        rw [h19', nI_1]
        exact go _ (by rw [em, Nat.min_eq_left (show k + 1 ≤ 4 by omega), nVx_s])
    · have ef : fgX X (s + k) = s + k := fgX_n (fun q => e q.2)
      rw [ef]
      exact fin k n τ _ (by omega) hk1 h19 h20 h22 ha (M_figN hf e)
/-- the model at its token -/
def MTk (τ : Mem) (X : XV) (b : Nat) : Prop := mI τ 0 20 = nI (skX X b) ∧ mI τ 0 21 = nI (tmk (kdX X (skX X b))) ∧ mI τ 0 19 = nI (nxX X b) ∧ (kdX X (skX X b) = 1 → mI τ 0 22 = nI (vlX X b)) ∧ (isIt (kdX X (skX X b)) = true → mI τ 0 22 = nI (kdX X (skX X b)))
theorem chain7 {α : Type} (g : Int32 → α) {c : Nat} (hc : c < 256) : (if nI c = (113 : Int32) then g 1 else if nI c = (114 : Int32) then g 1 else if nI c = (98 : Int32) then g 1 else if nI c = (116 : Int32) then g 1 else if nI c = (107 : Int32) then g 1 else if nI c = (59 : Int32) then g 3 else g 4) = g (nI (if isIt c = true then 1 else if c = 59 then 3 else 4)) := by
  rw [show (113 : Int32) = nI 113 from rfl, show (114 : Int32) = nI 114 from rfl, show (98 : Int32) = nI 98 from rfl, show (116 : Int32) = nI 116 from rfl, show (107 : Int32) = nI 107 from rfl, show (59 : Int32) = nI 59 from rfl, iteE (by omega) (by omega), iteE (by omega) (by omega), iteE (by omega) (by omega), iteE (by omega) (by omega), iteE (by omega) (by omega), iteE (by omega) (by omega)]
  have hy : (c = 113 ∨ c = 114 ∨ c = 98 ∨ c = 116 ∨ c = 107) → g 1 = g (nI (if isIt c = true then 1 else if c = 59 then 3 else 4)) := fun h => by
    rw [if_pos (show isIt c = true from decide_eq_true h)]; rfl
  by_cases h1 : c = 113
  · rw [if_pos h1]; exact hy (by omega)
  · by_cases h2 : c = 114
    · rw [if_neg h1, if_pos h2]; exact hy (by omega)
    · by_cases h3 : c = 98
      · rw [if_neg h1, if_neg h2, if_pos h3]; exact hy (by omega)
      · by_cases h4 : c = 116
        · rw [if_neg h1, if_neg h2, if_neg h3, if_pos h4]; exact hy (by omega)
        · by_cases h5 : c = 107
          · rw [if_neg h1, if_neg h2, if_neg h3, if_neg h4, if_pos h5]; exact hy (by omega)
          · rw [if_neg h1, if_neg h2, if_neg h3, if_neg h4, if_neg h5, if_neg (show ¬ isIt c = true from fun q => by have := of_decide_eq_true q; omega)]
            by_cases h6 : c = 59
            · rw [if_pos h6, if_pos h6]; rfl
            · rw [if_neg h6, if_neg h6]; rfl
theorem M_body {X : XV} (hX : XOK X) {s n : Nat} {τ : Mem} (hT : TM τ X) (hs : s ≤ X.1) (hns : ¬ (s < X.1 ∧ X.2 s = 32)) (h19 : mI τ 0 19 = nI s) : ∃ τ', fX6_next_0 0 (n + 1) τ = some τ' ∧ (mI τ' 0 20 = nI s ∧ mI τ' 0 21 = nI (tmk (kdX X s)) ∧ mI τ' 0 19 = nI (enX X s) ∧ (kdX X s = 1 → mI τ' 0 22 = nI (nVx X s (enX X s - s))) ∧ (isIt (kdX X s) = true → mI τ' 0 22 = nI (kdX X s))) ∧ sameX FLm τ τ' := by
  have hL := hX.1
  have s1 : sameX FLm τ (sI τ 0 20 (nI s)) := by repeat (first | exact sameX.rf | refine sameX.sI ?_ (by first | rfl | exact Or.inl rfl | exact Or.inr rfl | trivial | decide | omega | simp) _ | refine sameX.sA ?_ (by first | rfl | exact Or.inl rfl | exact Or.inr rfl | trivial | decide | omega | simp) _ _ | refine sameX.sL ?_ (by first | rfl | exact Or.inl rfl | exact Or.inr rfl | trivial | decide | omega | simp) _ | refine sameX.sP ?_ (by first | rfl | exact Or.inl rfl | exact Or.inr rfl | trivial | decide | omega | simp) _ | refine sameX.sB ?_ (by first | rfl | exact Or.inl rfl | exact Or.inr rfl | trivial | decide | omega | simp) _ _)
  have h19' : mI (sI τ 0 20 (nI s)) 0 19 = nI s := by simp only [mI_sI, mI_sL, mI_sP, mI_sA, mI_sB, mL_sI, mL_sL, mL_sP, mL_sA, mL_sB, mP_sI, mP_sL, mP_sP, mP_sA, mP_sB, mA_sI, mA_sL, mA_sP, mA_sAg, mA_sB, mB_sI, mB_sL, mB_sP, mB_sA, mB_sBg, mE_sI, mE_sL, mE_sP, mE_sA, mE_sB, Nat.reduceEqDiff, Nat.reduceAdd, Nat.reduceMul, Nat.reduceSub, Nat.reduceLT, Nat.reduceLeDiff, Nat.reduceDiv, Nat.reduceMod, Nat.reduceBEq, and_true, true_and, and_false, false_and, and_self, ite_true, ite_false, if_true, if_false, reduceIte, eq_self, not_true, not_false_eq_true, Bool.true_and, Bool.and_true, Bool.false_and, Bool.and_false, Bool.or_true, Bool.true_or, Bool.or_false, Bool.false_or, Bool.not_true, Bool.not_false, reduceCtorEq, upd_e, Nat.add_eq_zero_iff, Nat.add_right_cancel_iff, Nat.add_left_cancel_iff]; exact h19
  by_cases es : s < X.1
  · have hf := hX.2 s es
    have k0 : ¬ X.1 ≤ s := by omega
    have h32 : ¬ nI (X.2 s) = (32 : Int32) := by
      rw [show (32 : Int32) = nI 32 from rfl, eqN (by omega) (by omega)]; exact fun q => hns ⟨es, q⟩
    rw [fX6_next_0.eq_2, h19, M_at hX hT es, bd_s, if_neg h32, stp_s, h19', M_at hX (hT.keepL s1) es, bd_s, if_pos (nI_pos' (by omega)), stp_s, stp_s, nI_1]
    have s2 : sameX FLm τ (sI (sI (sI τ 0 20 (nI s)) 0 19 (nI (s + 1))) 0 22 (nI (X.2 s))) := by repeat (first | exact sameX.rf | refine sameX.sI ?_ (by first | rfl | exact Or.inl rfl | exact Or.inr rfl | trivial | decide | omega | simp) _ | refine sameX.sA ?_ (by first | rfl | exact Or.inl rfl | exact Or.inr rfl | trivial | decide | omega | simp) _ _ | refine sameX.sL ?_ (by first | rfl | exact Or.inl rfl | exact Or.inr rfl | trivial | decide | omega | simp) _ | refine sameX.sP ?_ (by first | rfl | exact Or.inl rfl | exact Or.inr rfl | trivial | decide | omega | simp) _ | refine sameX.sB ?_ (by first | rfl | exact Or.inl rfl | exact Or.inr rfl | trivial | decide | omega | simp) _ _)
    have k19 : mI (sI (sI (sI τ 0 20 (nI s)) 0 19 (nI (s + 1))) 0 22 (nI (X.2 s))) 0 19 = nI (s + 1) := by simp only [mI_sI, mI_sL, mI_sP, mI_sA, mI_sB, mL_sI, mL_sL, mL_sP, mL_sA, mL_sB, mP_sI, mP_sL, mP_sP, mP_sA, mP_sB, mA_sI, mA_sL, mA_sP, mA_sAg, mA_sB, mB_sI, mB_sL, mB_sP, mB_sA, mB_sBg, mE_sI, mE_sL, mE_sP, mE_sA, mE_sB, Nat.reduceEqDiff, Nat.reduceAdd, Nat.reduceMul, Nat.reduceSub, Nat.reduceLT, Nat.reduceLeDiff, Nat.reduceDiv, Nat.reduceMod, Nat.reduceBEq, and_true, true_and, and_false, false_and, and_self, ite_true, ite_false, if_true, if_false, reduceIte, eq_self, not_true, not_false_eq_true, Bool.true_and, Bool.and_true, Bool.false_and, Bool.and_false, Bool.or_true, Bool.true_or, Bool.or_false, Bool.false_or, Bool.not_true, Bool.not_false, reduceCtorEq, upd_e, Nat.add_eq_zero_iff, Nat.add_right_cancel_iff, Nat.add_left_cancel_iff]
    have k20 : mI (sI (sI (sI τ 0 20 (nI s)) 0 19 (nI (s + 1))) 0 22 (nI (X.2 s))) 0 20 = nI s := by simp only [mI_sI, mI_sL, mI_sP, mI_sA, mI_sB, mL_sI, mL_sL, mL_sP, mL_sA, mL_sB, mP_sI, mP_sL, mP_sP, mP_sA, mP_sB, mA_sI, mA_sL, mA_sP, mA_sAg, mA_sB, mB_sI, mB_sL, mB_sP, mB_sA, mB_sBg, mE_sI, mE_sL, mE_sP, mE_sA, mE_sB, Nat.reduceEqDiff, Nat.reduceAdd, Nat.reduceMul, Nat.reduceSub, Nat.reduceLT, Nat.reduceLeDiff, Nat.reduceDiv, Nat.reduceMod, Nat.reduceBEq, and_true, true_and, and_false, false_and, and_self, ite_true, ite_false, if_true, if_false, reduceIte, eq_self, not_true, not_false_eq_true, Bool.true_and, Bool.and_true, Bool.false_and, Bool.and_false, Bool.or_true, Bool.true_or, Bool.or_false, Bool.false_or, Bool.not_true, Bool.not_false, reduceCtorEq, upd_e, Nat.add_eq_zero_iff, Nat.add_right_cancel_iff, Nat.add_left_cancel_iff]
    have k22 : mI (sI (sI (sI τ 0 20 (nI s)) 0 19 (nI (s + 1))) 0 22 (nI (X.2 s))) 0 22 = nI (X.2 s) := by simp only [mI_sI, mI_sL, mI_sP, mI_sA, mI_sB, mL_sI, mL_sL, mL_sP, mL_sA, mL_sB, mP_sI, mP_sL, mP_sP, mP_sA, mP_sB, mA_sI, mA_sL, mA_sP, mA_sAg, mA_sB, mB_sI, mB_sL, mB_sP, mB_sA, mB_sBg, mE_sI, mE_sL, mE_sP, mE_sA, mE_sB, Nat.reduceEqDiff, Nat.reduceAdd, Nat.reduceMul, Nat.reduceSub, Nat.reduceLT, Nat.reduceLeDiff, Nat.reduceDiv, Nat.reduceMod, Nat.reduceBEq, and_true, true_and, and_false, false_and, and_self, ite_true, ite_false, if_true, if_false, reduceIte, eq_self, not_true, not_false_eq_true, Bool.true_and, Bool.and_true, Bool.false_and, Bool.and_false, Bool.or_true, Bool.true_or, Bool.or_false, Bool.false_or, Bool.not_true, Bool.not_false, reduceCtorEq, upd_e, Nat.add_eq_zero_iff, Nat.add_right_cancel_iff, Nat.add_left_cancel_iff]
    rw [chain7 (fun x => fX6_next_114 0 (sI (sI (sI τ 0 20 (nI s)) 0 19 (nI (s + 1))) 0 22 (nI (X.2 s))) (nI (X.2 s)) x) hf]
    generalize sI (sI (sI τ 0 20 (nI s)) 0 19 (nI (s + 1))) 0 22 (nI (X.2 s)) = τ1 at s2 k19 k20 k22
    show ∃ τ', fX6_next_114 0 τ1 (nI (X.2 s)) (nI (if isIt (X.2 s) = true then 1 else if X.2 s = 59 then 3 else 4)) = some τ' ∧ _
    unfold fX6_next_114
    rw [stp_s]
    by_cases ef : isFg (X.2 s) = true
    · have e48 := of_decide_eq_true ef
      have een : enX X s = fgX X s := by unfold enX; rw [if_neg k0, if_pos ef]
      have hkd : kdX X s = nkX X s (fgX X s) := by unfold kdX nkX; rw [if_neg k0, if_pos ef]
      have ef1 : fgX X s = fgX X (s + 1) := fgX_y es ef
      rw [M_figY ef, bd_s, if_neg (show ¬ (1 : Int32) = 0 by decide), show (48 : Int32) = nI 48 from rfl, pk_sub e48.1, stp_s, een, hkd, ef1]
      have s3 : sameX FLm τ1 (sI (sI τ1 0 21 (nI (if isIt (X.2 s) = true then 1 else if X.2 s = 59 then 3 else 4))) 0 22 (nI (X.2 s - 48))) := by repeat (first | exact sameX.rf | refine sameX.sI ?_ (by first | rfl | exact Or.inl rfl | exact Or.inr rfl | trivial | decide | omega | simp) _ | refine sameX.sA ?_ (by first | rfl | exact Or.inl rfl | exact Or.inr rfl | trivial | decide | omega | simp) _ _ | refine sameX.sL ?_ (by first | rfl | exact Or.inl rfl | exact Or.inr rfl | trivial | decide | omega | simp) _ | refine sameX.sP ?_ (by first | rfl | exact Or.inl rfl | exact Or.inr rfl | trivial | decide | omega | simp) _ | refine sameX.sB ?_ (by first | rfl | exact Or.inl rfl | exact Or.inr rfl | trivial | decide | omega | simp) _ _)
      obtain ⟨τ', e1, a1, a2, a3, a4, s4⟩ := M_num_l hX ef (X.1 - (s + 1)) 1 FU (sI (sI τ1 0 21 (nI (if isIt (X.2 s) = true then 1 else if X.2 s = 59 then 3 else 4))) 0 22 (nI (X.2 s - 48))) (by omega) (by show _ < 1000; omega) (by decide) (hT.keepL (s2.tr s3)) (by simp only [mI_sI, mI_sL, mI_sP, mI_sA, mI_sB, mL_sI, mL_sL, mL_sP, mL_sA, mL_sB, mP_sI, mP_sL, mP_sP, mP_sA, mP_sB, mA_sI, mA_sL, mA_sP, mA_sAg, mA_sB, mB_sI, mB_sL, mB_sP, mB_sA, mB_sBg, mE_sI, mE_sL, mE_sP, mE_sA, mE_sB, Nat.reduceEqDiff, Nat.reduceAdd, Nat.reduceMul, Nat.reduceSub, Nat.reduceLT, Nat.reduceLeDiff, Nat.reduceDiv, Nat.reduceMod, Nat.reduceBEq, and_true, true_and, and_false, false_and, and_self, ite_true, ite_false, if_true, if_false, reduceIte, eq_self, not_true, not_false_eq_true, Bool.true_and, Bool.and_true, Bool.false_and, Bool.and_false, Bool.or_true, Bool.true_or, Bool.or_false, Bool.false_or, Bool.not_true, Bool.not_false, reduceCtorEq, upd_e, Nat.add_eq_zero_iff, Nat.add_right_cancel_iff, Nat.add_left_cancel_iff]; exact k19) (by simp only [mI_sI, mI_sL, mI_sP, mI_sA, mI_sB, mL_sI, mL_sL, mL_sP, mL_sA, mL_sB, mP_sI, mP_sL, mP_sP, mP_sA, mP_sB, mA_sI, mA_sL, mA_sP, mA_sAg, mA_sB, mB_sI, mB_sL, mB_sP, mB_sA, mB_sBg, mE_sI, mE_sL, mE_sP, mE_sA, mE_sB, Nat.reduceEqDiff, Nat.reduceAdd, Nat.reduceMul, Nat.reduceSub, Nat.reduceLT, Nat.reduceLeDiff, Nat.reduceDiv, Nat.reduceMod, Nat.reduceBEq, and_true, true_and, and_false, false_and, and_self, ite_true, ite_false, if_true, if_false, reduceIte, eq_self, not_true, not_false_eq_true, Bool.true_and, Bool.and_true, Bool.false_and, Bool.and_false, Bool.or_true, Bool.true_or, Bool.or_false, Bool.false_or, Bool.not_true, Bool.not_false, reduceCtorEq, upd_e, Nat.add_eq_zero_iff, Nat.add_right_cancel_iff, Nat.add_left_cancel_iff]; exact k20) (by
        simp only [mI_sI, mI_sL, mI_sP, mI_sA, mI_sB, mL_sI, mL_sL, mL_sP, mL_sA, mL_sB, mP_sI, mP_sL, mP_sP, mP_sA, mP_sB, mA_sI, mA_sL, mA_sP, mA_sAg, mA_sB, mB_sI, mB_sL, mB_sP, mB_sA, mB_sBg, mE_sI, mE_sL, mE_sP, mE_sA, mE_sB, Nat.reduceEqDiff, Nat.reduceAdd, Nat.reduceMul, Nat.reduceSub, Nat.reduceLT, Nat.reduceLeDiff, Nat.reduceDiv, Nat.reduceMod, Nat.reduceBEq, and_true, true_and, and_false, false_and, and_self, ite_true, ite_false, if_true, if_false, reduceIte, eq_self, not_true, not_false_eq_true, Bool.true_and, Bool.and_true, Bool.false_and, Bool.and_false, Bool.or_true, Bool.true_or, Bool.or_false, Bool.false_or, Bool.not_true, Bool.not_false, reduceCtorEq, upd_e, Nat.add_eq_zero_iff, Nat.add_right_cancel_iff, Nat.add_left_cancel_iff]
        show _ = nI (0 * 10 + (X.2 (s + 0) - 48))
        rw [Nat.add_zero, Nat.zero_mul, Nat.zero_add])
      refine ⟨τ', e1, ⟨a2, a3, a1, a4, fun q => ?_⟩, s2.tr (s3.tr s4)⟩
      exfalso
      have q := of_decide_eq_true q
      unfold nkX at q
      split at q
      · omega
      · split at q <;> omega
    · have een : enX X s = s + 1 := by unfold enX; rw [if_neg k0, if_neg ef]
      have hkd : kdX X s = if isIt (X.2 s) = true ∨ X.2 s = 59 then X.2 s else 2 := by unfold kdX; rw [if_neg k0, if_neg ef]
      rw [M_figN hf ef, bd_s, if_pos rfl, een, hkd]
      have s3 : sameX FLm τ1 (sI τ1 0 21 (nI (if isIt (X.2 s) = true then 1 else if X.2 s = 59 then 3 else 4))) := by repeat (first | exact sameX.rf | refine sameX.sI ?_ (by first | rfl | exact Or.inl rfl | exact Or.inr rfl | trivial | decide | omega | simp) _ | refine sameX.sA ?_ (by first | rfl | exact Or.inl rfl | exact Or.inr rfl | trivial | decide | omega | simp) _ _ | refine sameX.sL ?_ (by first | rfl | exact Or.inl rfl | exact Or.inr rfl | trivial | decide | omega | simp) _ | refine sameX.sP ?_ (by first | rfl | exact Or.inl rfl | exact Or.inr rfl | trivial | decide | omega | simp) _ | refine sameX.sB ?_ (by first | rfl | exact Or.inl rfl | exact Or.inr rfl | trivial | decide | omega | simp) _ _)
      refine ⟨_, rfl, ⟨by simp only [mI_sI, mI_sL, mI_sP, mI_sA, mI_sB, mL_sI, mL_sL, mL_sP, mL_sA, mL_sB, mP_sI, mP_sL, mP_sP, mP_sA, mP_sB, mA_sI, mA_sL, mA_sP, mA_sAg, mA_sB, mB_sI, mB_sL, mB_sP, mB_sA, mB_sBg, mE_sI, mE_sL, mE_sP, mE_sA, mE_sB, Nat.reduceEqDiff, Nat.reduceAdd, Nat.reduceMul, Nat.reduceSub, Nat.reduceLT, Nat.reduceLeDiff, Nat.reduceDiv, Nat.reduceMod, Nat.reduceBEq, and_true, true_and, and_false, false_and, and_self, ite_true, ite_false, if_true, if_false, reduceIte, eq_self, not_true, not_false_eq_true, Bool.true_and, Bool.and_true, Bool.false_and, Bool.and_false, Bool.or_true, Bool.true_or, Bool.or_false, Bool.false_or, Bool.not_true, Bool.not_false, reduceCtorEq, upd_e, Nat.add_eq_zero_iff, Nat.add_right_cancel_iff, Nat.add_left_cancel_iff]; exact k20, ?_, by simp only [mI_sI, mI_sL, mI_sP, mI_sA, mI_sB, mL_sI, mL_sL, mL_sP, mL_sA, mL_sB, mP_sI, mP_sL, mP_sP, mP_sA, mP_sB, mA_sI, mA_sL, mA_sP, mA_sAg, mA_sB, mB_sI, mB_sL, mB_sP, mB_sA, mB_sBg, mE_sI, mE_sL, mE_sP, mE_sA, mE_sB, Nat.reduceEqDiff, Nat.reduceAdd, Nat.reduceMul, Nat.reduceSub, Nat.reduceLT, Nat.reduceLeDiff, Nat.reduceDiv, Nat.reduceMod, Nat.reduceBEq, and_true, true_and, and_false, false_and, and_self, ite_true, ite_false, if_true, if_false, reduceIte, eq_self, not_true, not_false_eq_true, Bool.true_and, Bool.and_true, Bool.false_and, Bool.and_false, Bool.or_true, Bool.true_or, Bool.or_false, Bool.false_or, Bool.not_true, Bool.not_false, reduceCtorEq, upd_e, Nat.add_eq_zero_iff, Nat.add_right_cancel_iff, Nat.add_left_cancel_iff]; exact k19, fun q => ?_, fun q => ?_⟩, s2.tr s3⟩
      · simp only [mI_sI, and_self, if_true]
        refine congrArg nI ?_
        by_cases e1 : isIt (X.2 s) = true
        · have := of_decide_eq_true e1
          rw [if_pos e1, if_pos (Or.inl e1)]
          unfold tmk
          rw [if_neg (by omega), if_neg (by omega), if_neg (by omega), if_neg (by omega)]
        · rw [if_neg e1]
          by_cases e2 : X.2 s = 59
          · rw [if_pos e2, if_pos (Or.inr e2), e2]; rfl
          · rw [if_neg e2, if_neg (fun q => q.elim e1 e2)]; rfl
      · exfalso
        by_cases e1 : isIt (X.2 s) = true ∨ X.2 s = 59
        · rw [if_pos e1] at q
          rcases e1 with e1 | e1
          · have := of_decide_eq_true e1; omega
          · omega
        · rw [if_neg e1] at q; exact absurd q (by decide)
      · simp only [mI_sI, mI_sL, mI_sP, mI_sA, mI_sB, mL_sI, mL_sL, mL_sP, mL_sA, mL_sB, mP_sI, mP_sL, mP_sP, mP_sA, mP_sB, mA_sI, mA_sL, mA_sP, mA_sAg, mA_sB, mB_sI, mB_sL, mB_sP, mB_sA, mB_sBg, mE_sI, mE_sL, mE_sP, mE_sA, mE_sB, Nat.reduceEqDiff, Nat.reduceAdd, Nat.reduceMul, Nat.reduceSub, Nat.reduceLT, Nat.reduceLeDiff, Nat.reduceDiv, Nat.reduceMod, Nat.reduceBEq, and_true, true_and, and_false, false_and, and_self, ite_true, ite_false, if_true, if_false, reduceIte, eq_self, not_true, not_false_eq_true, Bool.true_and, Bool.and_true, Bool.false_and, Bool.and_false, Bool.or_true, Bool.true_or, Bool.or_false, Bool.false_or, Bool.not_true, Bool.not_false, reduceCtorEq, upd_e, Nat.add_eq_zero_iff, Nat.add_right_cancel_iff, Nat.add_left_cancel_iff]
        by_cases e1 : isIt (X.2 s) = true ∨ X.2 s = 59
        · rw [if_pos e1]; exact k22
        · rw [if_neg e1] at q; exact absurd q (by decide)
  · have k0 : X.1 ≤ s := by omega
    have hkd : kdX X s = 0 := by unfold kdX; rw [if_pos k0]
    have een : enX X s = s := by unfold enX; rw [if_pos k0]
    rw [fX6_next_0.eq_2, h19, M_atE hX hT k0 (by omega), bd_s, if_neg (show ¬ (-1 : Int32) = 32 by decide), stp_s, h19', M_atE hX (hT.keepL s1) k0 (by omega), bd_s, if_neg (show ¬ 0 ≤ (-1 : Int32) by decide), stp_s, hkd, een]
    refine ⟨_, rfl, ⟨by simp only [mI_sI, mI_sL, mI_sP, mI_sA, mI_sB, mL_sI, mL_sL, mL_sP, mL_sA, mL_sB, mP_sI, mP_sL, mP_sP, mP_sA, mP_sB, mA_sI, mA_sL, mA_sP, mA_sAg, mA_sB, mB_sI, mB_sL, mB_sP, mB_sA, mB_sBg, mE_sI, mE_sL, mE_sP, mE_sA, mE_sB, Nat.reduceEqDiff, Nat.reduceAdd, Nat.reduceMul, Nat.reduceSub, Nat.reduceLT, Nat.reduceLeDiff, Nat.reduceDiv, Nat.reduceMod, Nat.reduceBEq, and_true, true_and, and_false, false_and, and_self, ite_true, ite_false, if_true, if_false, reduceIte, eq_self, not_true, not_false_eq_true, Bool.true_and, Bool.and_true, Bool.false_and, Bool.and_false, Bool.or_true, Bool.true_or, Bool.or_false, Bool.false_or, Bool.not_true, Bool.not_false, reduceCtorEq, upd_e, Nat.add_eq_zero_iff, Nat.add_right_cancel_iff, Nat.add_left_cancel_iff], by simp only [mI_sI, mI_sL, mI_sP, mI_sA, mI_sB, mL_sI, mL_sL, mL_sP, mL_sA, mL_sB, mP_sI, mP_sL, mP_sP, mP_sA, mP_sB, mA_sI, mA_sL, mA_sP, mA_sAg, mA_sB, mB_sI, mB_sL, mB_sP, mB_sA, mB_sBg, mE_sI, mE_sL, mE_sP, mE_sA, mE_sB, Nat.reduceEqDiff, Nat.reduceAdd, Nat.reduceMul, Nat.reduceSub, Nat.reduceLT, Nat.reduceLeDiff, Nat.reduceDiv, Nat.reduceMod, Nat.reduceBEq, and_true, true_and, and_false, false_and, and_self, ite_true, ite_false, if_true, if_false, reduceIte, eq_self, not_true, not_false_eq_true, Bool.true_and, Bool.and_true, Bool.false_and, Bool.and_false, Bool.or_true, Bool.true_or, Bool.or_false, Bool.false_or, Bool.not_true, Bool.not_false, reduceCtorEq, upd_e, Nat.add_eq_zero_iff, Nat.add_right_cancel_iff, Nat.add_left_cancel_iff]; rfl, by simp only [mI_sI, mI_sL, mI_sP, mI_sA, mI_sB, mL_sI, mL_sL, mL_sP, mL_sA, mL_sB, mP_sI, mP_sL, mP_sP, mP_sA, mP_sB, mA_sI, mA_sL, mA_sP, mA_sAg, mA_sB, mB_sI, mB_sL, mB_sP, mB_sA, mB_sBg, mE_sI, mE_sL, mE_sP, mE_sA, mE_sB, Nat.reduceEqDiff, Nat.reduceAdd, Nat.reduceMul, Nat.reduceSub, Nat.reduceLT, Nat.reduceLeDiff, Nat.reduceDiv, Nat.reduceMod, Nat.reduceBEq, and_true, true_and, and_false, false_and, and_self, ite_true, ite_false, if_true, if_false, reduceIte, eq_self, not_true, not_false_eq_true, Bool.true_and, Bool.and_true, Bool.false_and, Bool.and_false, Bool.or_true, Bool.true_or, Bool.or_false, Bool.false_or, Bool.not_true, Bool.not_false, reduceCtorEq, upd_e, Nat.add_eq_zero_iff, Nat.add_right_cancel_iff, Nat.add_left_cancel_iff]; exact h19, fun q => absurd q (by decide), fun q => absurd q (by decide)⟩, s1.sI ⟨by decide, by decide⟩ _⟩
theorem M_next_l {X : XV} (hX : XOK X) : ∀ (r b n : Nat) (τ : Mem), b + r = X.1 → r < n → TM τ X → mI τ 0 19 = nI b → ∃ τ', fX6_next_0 0 n τ = some τ' ∧ MTk τ' X b ∧ sameX FLm τ τ' := by
  have hL := hX.1
  intro r
  induction r with
  | zero =>
    intro b n τ hb hn hT h19
    obtain ⟨n, rfl⟩ : ∃ m, n = m + 1 := ⟨n - 1, by omega⟩
    unfold MTk vlX nxX
    rw [skX_n (show ¬ (b < X.1 ∧ X.2 b = 32) by omega)]
    exact M_body hX hT (by omega) (by omega) h19
  | succ r ih =>
    intro b n τ hb hn hT h19
    obtain ⟨n, rfl⟩ : ∃ m, n = m + 1 := ⟨n - 1, by omega⟩
    by_cases e : X.2 b = 32
    · have hs : sameX FLm τ (sI τ 0 19 (nI (b + 1))) := by repeat (first | exact sameX.rf | refine sameX.sI ?_ (by first | rfl | exact Or.inl rfl | exact Or.inr rfl | trivial | decide | omega | simp) _ | refine sameX.sA ?_ (by first | rfl | exact Or.inl rfl | exact Or.inr rfl | trivial | decide | omega | simp) _ _ | refine sameX.sL ?_ (by first | rfl | exact Or.inl rfl | exact Or.inr rfl | trivial | decide | omega | simp) _ | refine sameX.sP ?_ (by first | rfl | exact Or.inl rfl | exact Or.inr rfl | trivial | decide | omega | simp) _ | refine sameX.sB ?_ (by first | rfl | exact Or.inl rfl | exact Or.inr rfl | trivial | decide | omega | simp) _ _)
      obtain ⟨τ', e1, a1, s1⟩ := ih (b + 1) n (sI τ 0 19 (nI (b + 1))) (by omega) (by omega) (hT.keepL hs) (by simp only [mI_sI, mI_sL, mI_sP, mI_sA, mI_sB, mL_sI, mL_sL, mL_sP, mL_sA, mL_sB, mP_sI, mP_sL, mP_sP, mP_sA, mP_sB, mA_sI, mA_sL, mA_sP, mA_sAg, mA_sB, mB_sI, mB_sL, mB_sP, mB_sA, mB_sBg, mE_sI, mE_sL, mE_sP, mE_sA, mE_sB, Nat.reduceEqDiff, Nat.reduceAdd, Nat.reduceMul, Nat.reduceSub, Nat.reduceLT, Nat.reduceLeDiff, Nat.reduceDiv, Nat.reduceMod, Nat.reduceBEq, and_true, true_and, and_false, false_and, and_self, ite_true, ite_false, if_true, if_false, reduceIte, eq_self, not_true, not_false_eq_true, Bool.true_and, Bool.and_true, Bool.false_and, Bool.and_false, Bool.or_true, Bool.true_or, Bool.or_false, Bool.false_or, Bool.not_true, Bool.not_false, reduceCtorEq, upd_e, Nat.add_eq_zero_iff, Nat.add_right_cancel_iff, Nat.add_left_cancel_iff])
      refine ⟨τ', ?_, ?_, hs.tr s1⟩
      · rw [fX6_next_0.eq_2, h19, M_at hX hT (by omega), bd_s, if_pos (show nI (X.2 b) = 32 by rw [e]; rfl), stp_s, nI_1]
        exact e1
      · unfold MTk vlX nxX at a1 ⊢
        rw [skX_y (by omega) e]
        exact a1
    · unfold MTk vlX nxX
      rw [skX_n (fun q => e q.2)]
      exact M_body hX hT (by omega) (fun q => e q.2) h19
theorem M_next {X : XV} (hX : XOK X) {τ : Mem} (hT : TM τ X) {b : Nat} (hb : b ≤ X.1) (h19 : mI τ 0 19 = nI b) : ∃ τ', fX6_next τ 0 = some τ' ∧ MTk τ' X b ∧ sameX FLm τ τ' := by
  have hL := hX.1
  exact M_next_l hX (X.1 - b) b FU τ (by omega) (by show _ < 1000; omega) hT h19
