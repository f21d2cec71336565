/-! what is told so far -/
abbrev DV : Type := IV × (Nat → Bool)
def fl3 (fl : Nat → Bool) (t : Nat) : Bool := decide (t < 3) && fl t
def CDr (σ : Mem) (q2 : Nat) (D : DV) : Prop := IC σ q2 D.1 ∧ ∀ k, k < 3 → mI σ 1 (7 + k) = nI (b2n (D.2 k))
def MDr (τ : Mem) (D : DV) : Prop :=
  mA τ 0 28 0 = nI (iH D.1) ∧ mA τ 0 28 1 = nI (iR D.1) ∧ mA τ 0 28 2 = nI (iB D.1) ∧ mI τ 0 24 = nI (iT D.1) ∧ mI τ 0 26 = nI (iK D.1) ∧ (∀ t, t < iT D.1 → mA τ 0 25 (2 * t) = nI (iC D.1 t)) ∧ (∀ t, t < iT D.1 → mA τ 0 25 (2 * t + 1) = nI (iX D.1 t)) ∧
  (∀ k, k < iK D.1 → mA τ 0 27 (3 * k) = nI (iU D.1 k)) ∧ (∀ k, k < iK D.1 → mA τ 0 27 (3 * k + 1) = nI (iM D.1 k)) ∧ (∀ k, k < iK D.1 → mA τ 0 27 (3 * k + 2) = nI (iN D.1 k)) ∧ mI τ 0 29 = nI (bs6 (fl3 D.2))
abbrev FCi (q2 : Nat) (o k : Nat) : Prop := (o = 1 ∧ 2 ≤ k) ∨ o = q2
abbrev FMi (_o k : Nat) : Prop := 19 ≤ k
abbrev FLw (_o k : Nat) : Prop := 19 ≤ k ∧ k ≤ 23
theorem CDr.keep {F : Nat → Nat → Prop} {σ σ' : Mem} {q2 : Nat} {D : DV} (h : CDr σ q2 D) (hs : sameX F σ σ') (hq : ∀ k, ¬ F q2 k) (h7 : ∀ k, k < 3 → ¬ F 1 (7 + k)) : CDr σ' q2 D :=
  ⟨h.1.keep hs hq, fun k hk => by rw [(hs 1 (7 + k) (h7 k hk)).1]; exact h.2 k hk⟩
theorem MDr.keep {F : Nat → Nat → Prop} {τ τ' : Mem} {D : DV} (h : MDr τ D) (hs : sameX F τ τ') (hF : ∀ k, 24 ≤ k → k ≤ 29 → ¬ F 0 k) : MDr τ' D := by
  unfold MDr
  rw [(hs 0 24 (hF 24 (by decide) (by decide))).1, (hs 0 26 (hF 26 (by decide) (by decide))).1, (hs 0 29 (hF 29 (by decide) (by decide))).1, (hs 0 25 (hF 25 (by decide) (by decide))).2.2.2.1, (hs 0 27 (hF 27 (by decide) (by decide))).2.2.2.1, (hs 0 28 (hF 28 (by decide) (by decide))).2.2.2.1]
  exact h
theorem MTk.keep {F : Nat → Nat → Prop} {τ τ' : Mem} {X : XV} {b : Nat} (h : MTk τ X b) (hs : sameX F τ τ') (hF : ∀ k, 19 ≤ k → k ≤ 22 → ¬ F 0 k) : MTk τ' X b := by
  unfold MTk
  rw [(hs 0 19 (hF 19 (by decide) (by decide))).1, (hs 0 20 (hF 20 (by decide) (by decide))).1, (hs 0 21 (hF 21 (by decide) (by decide))).1, (hs 0 22 (hF 22 (by decide) (by decide))).1]
  exact h
def MOKx (τ : Mem) (X : XV) (b : Nat) : Prop := TM τ X ∧ MTk τ X b ∧ mI τ 0 23 = 0
def WRx (τ : Mem) (p : Nat) : Prop := mI τ 0 23 = 1 ∧ mI τ 0 20 = nI p
theorem MOKx.keep {F : Nat → Nat → Prop} {τ τ' : Mem} {X : XV} {b : Nat} (h : MOKx τ X b) (hs : sameX F τ τ') (hF : ∀ k, 17 ≤ k → k ≤ 23 → ¬ F 0 k) : MOKx τ' X b :=
  ⟨h.1.keep hs ⟨hF 17 (by decide) (by decide), hF 18 (by decide) (by decide)⟩, h.2.1.keep hs (fun k h1 h2 => hF k (by omega) (by omega)), by rw [(hs 0 23 (hF 23 (by decide) (by decide))).1]; exact h.2.2⟩
theorem WRx.keep {F : Nat → Nat → Prop} {τ τ' : Mem} {p : Nat} (h : WRx τ p) (hs : sameX F τ τ') (hF : ¬ F 0 20 ∧ ¬ F 0 23) : WRx τ' p :=
  ⟨by rw [(hs 0 23 hF.2).1]; exact h.1, by rw [(hs 0 20 hF.1).1]; exact h.2⟩
theorem must_ok {X : XV} (hX : XOK X) {τ : Mem} {b : Nat} (hb : b ≤ X.1) (h : MOKx τ X b) : ∃ τ', fX6_must τ 0 1 = some τ' ∧ MOKx τ' X (nxX X b) ∧ sameX FLw τ τ' := by
  obtain ⟨h1, h2, h3⟩ := h
  have s1 : sameX FLw τ (sI τ 0 23 0) := by repeat (first | exact sameX.rf | refine sameX.sI ?_ (by first | rfl | exact Or.inl rfl | exact Or.inr rfl | trivial | decide | omega | simp) _ | refine sameX.sA ?_ (by first | rfl | exact Or.inl rfl | exact Or.inr rfl | trivial | decide | omega | simp) _ _ | refine sameX.sL ?_ (by first | rfl | exact Or.inl rfl | exact Or.inr rfl | trivial | decide | omega | simp) _ | refine sameX.sP ?_ (by first | rfl | exact Or.inl rfl | exact Or.inr rfl | trivial | decide | omega | simp) _ | refine sameX.sB ?_ (by first | rfl | exact Or.inl rfl | exact Or.inr rfl | trivial | decide | omega | simp) _ _)
  have hn := nxX_ge hb
  obtain ⟨τ', e1, a1, s2⟩ := M_next hX (h1.keep s1 ⟨by omega, by omega⟩) (b := nxX X b) hn.2.1 (by simp only [mI_sI, mI_sL, mI_sP, mI_sA, mI_sB, mL_sI, mL_sL, mL_sP, mL_sA, mL_sB, mP_sI, mP_sL, mP_sP, mP_sA, mP_sB, mA_sI, mA_sL, mA_sP, mA_sAg, mA_sB, mB_sI, mB_sL, mB_sP, mB_sA, mB_sBg, mE_sI, mE_sL, mE_sP, mE_sA, mE_sB, Nat.reduceEqDiff, Nat.reduceAdd, Nat.reduceMul, Nat.reduceSub, Nat.reduceLT, Nat.reduceLeDiff, Nat.reduceDiv, Nat.reduceMod, Nat.reduceBEq, and_true, true_and, and_false, false_and, and_self, ite_true, ite_false, if_true, if_false, reduceIte, eq_self, not_true, not_false_eq_true, Bool.true_and, Bool.and_true, Bool.false_and, Bool.and_false, Bool.or_true, Bool.true_or, Bool.or_false, Bool.false_or, Bool.not_true, Bool.not_false, reduceCtorEq, upd_e, Nat.add_eq_zero_iff, Nat.add_right_cancel_iff, Nat.add_left_cancel_iff]; exact h2.2.2.1)
  have h23 : mI (sI τ 0 23 0) 0 23 = 0 := by simp only [mI_sI, mI_sL, mI_sP, mI_sA, mI_sB, mL_sI, mL_sL, mL_sP, mL_sA, mL_sB, mP_sI, mP_sL, mP_sP, mP_sA, mP_sB, mA_sI, mA_sL, mA_sP, mA_sAg, mA_sB, mB_sI, mB_sL, mB_sP, mB_sA, mB_sBg, mE_sI, mE_sL, mE_sP, mE_sA, mE_sB, Nat.reduceEqDiff, Nat.reduceAdd, Nat.reduceMul, Nat.reduceSub, Nat.reduceLT, Nat.reduceLeDiff, Nat.reduceDiv, Nat.reduceMod, Nat.reduceBEq, and_true, true_and, and_false, false_and, and_self, ite_true, ite_false, if_true, if_false, reduceIte, eq_self, not_true, not_false_eq_true, Bool.true_and, Bool.and_true, Bool.false_and, Bool.and_false, Bool.or_true, Bool.true_or, Bool.or_false, Bool.false_or, Bool.not_true, Bool.not_false, reduceCtorEq, upd_e, Nat.add_eq_zero_iff, Nat.add_right_cancel_iff, Nat.add_left_cancel_iff]
  refine ⟨τ', ?_, ⟨h1.keep (s1.tr (s2.mono (fun o k h => ⟨h.1, by omega⟩))) ⟨by omega, by omega⟩, a1, ?_⟩, s1.tr (s2.mono (fun o k h => ⟨h.1, by omega⟩))⟩
  · unfold fX6_must fX6_must_17
    rw [if_pos h3, if_neg (show ¬ (1 : Int32) = 0 by decide), zb0, gd_t, stp_s, if_pos h23, e1, bd_s]
  · rw [(s2 0 23 (by omega)).1]; exact h23
theorem must_bad {τ : Mem} (h3 : mI τ 0 23 = 0) : fX6_must τ 0 0 = some (sI τ 0 23 1) := by
  have h23 : ¬ mI (sI τ 0 23 1) 0 23 = 0 := by
    simp only [mI_sI, mI_sL, mI_sP, mI_sA, mI_sB, mL_sI, mL_sL, mL_sP, mL_sA, mL_sB, mP_sI, mP_sL, mP_sP, mP_sA, mP_sB, mA_sI, mA_sL, mA_sP, mA_sAg, mA_sB, mB_sI, mB_sL, mB_sP, mB_sA, mB_sBg, mE_sI, mE_sL, mE_sP, mE_sA, mE_sB, Nat.reduceEqDiff, Nat.reduceAdd, Nat.reduceMul, Nat.reduceSub, Nat.reduceLT, Nat.reduceLeDiff, Nat.reduceDiv, Nat.reduceMod, Nat.reduceBEq, and_true, true_and, and_false, false_and, and_self, ite_true, ite_false, if_true, if_false, reduceIte, eq_self, not_true, not_false_eq_true, Bool.true_and, Bool.and_true, Bool.false_and, Bool.and_false, Bool.or_true, Bool.true_or, Bool.or_false, Bool.false_or, Bool.not_true, Bool.not_false, reduceCtorEq, upd_e, Nat.add_eq_zero_iff, Nat.add_right_cancel_iff, Nat.add_left_cancel_iff]; decide
  unfold fX6_must fX6_must_17
  rw [if_pos h3, if_pos rfl, zb1, gd_t, stp_s, if_neg h23]
theorem must_w {τ : Mem} (h3 : mI τ 0 23 = 1) (x : Int32) : fX6_must τ 0 x = some (sI τ 0 23 1) := by
  have h23 : ¬ mI (sI τ 0 23 1) 0 23 = 0 := by
    simp only [mI_sI, mI_sL, mI_sP, mI_sA, mI_sB, mL_sI, mL_sL, mL_sP, mL_sA, mL_sB, mP_sI, mP_sL, mP_sP, mP_sA, mP_sB, mA_sI, mA_sL, mA_sP, mA_sAg, mA_sB, mB_sI, mB_sL, mB_sP, mB_sA, mB_sBg, mE_sI, mE_sL, mE_sP, mE_sA, mE_sB, Nat.reduceEqDiff, Nat.reduceAdd, Nat.reduceMul, Nat.reduceSub, Nat.reduceLT, Nat.reduceLeDiff, Nat.reduceDiv, Nat.reduceMod, Nat.reduceBEq, and_true, true_and, and_false, false_and, and_self, ite_true, ite_false, if_true, if_false, reduceIte, eq_self, not_true, not_false_eq_true, Bool.true_and, Bool.and_true, Bool.false_and, Bool.and_false, Bool.or_true, Bool.true_or, Bool.or_false, Bool.false_or, Bool.not_true, Bool.not_false, reduceCtorEq, upd_e, Nat.add_eq_zero_iff, Nat.add_right_cancel_iff, Nat.add_left_cancel_iff]; decide
  unfold fX6_must fX6_must_17
  rw [if_neg (by rw [h3]; decide), zb1, gd_t, stp_s, if_neg h23]
theorem wr1 {τ : Mem} {p : Nat} (h : mI τ 0 20 = nI p) : WRx (sI τ 0 23 1) p := ⟨by simp only [mI_sI, mI_sL, mI_sP, mI_sA, mI_sB, mL_sI, mL_sL, mL_sP, mL_sA, mL_sB, mP_sI, mP_sL, mP_sP, mP_sA, mP_sB, mA_sI, mA_sL, mA_sP, mA_sAg, mA_sB, mB_sI, mB_sL, mB_sP, mB_sA, mB_sBg, mE_sI, mE_sL, mE_sP, mE_sA, mE_sB, Nat.reduceEqDiff, Nat.reduceAdd, Nat.reduceMul, Nat.reduceSub, Nat.reduceLT, Nat.reduceLeDiff, Nat.reduceDiv, Nat.reduceMod, Nat.reduceBEq, and_true, true_and, and_false, false_and, and_self, ite_true, ite_false, if_true, if_false, reduceIte, eq_self, not_true, not_false_eq_true, Bool.true_and, Bool.and_true, Bool.false_and, Bool.and_false, Bool.or_true, Bool.true_or, Bool.or_false, Bool.false_or, Bool.not_true, Bool.not_false, reduceCtorEq, upd_e, Nat.add_eq_zero_iff, Nat.add_right_cancel_iff, Nat.add_left_cancel_iff], by simp only [mI_sI, mI_sL, mI_sP, mI_sA, mI_sB, mL_sI, mL_sL, mL_sP, mL_sA, mL_sB, mP_sI, mP_sL, mP_sP, mP_sA, mP_sB, mA_sI, mA_sL, mA_sP, mA_sAg, mA_sB, mB_sI, mB_sL, mB_sP, mB_sA, mB_sBg, mE_sI, mE_sL, mE_sP, mE_sA, mE_sB, Nat.reduceEqDiff, Nat.reduceAdd, Nat.reduceMul, Nat.reduceSub, Nat.reduceLT, Nat.reduceLeDiff, Nat.reduceDiv, Nat.reduceMod, Nat.reduceBEq, and_true, true_and, and_false, false_and, and_self, ite_true, ite_false, if_true, if_false, reduceIte, eq_self, not_true, not_false_eq_true, Bool.true_and, Bool.and_true, Bool.false_and, Bool.and_false, Bool.or_true, Bool.true_or, Bool.or_false, Bool.false_or, Bool.not_true, Bool.not_false, reduceCtorEq, upd_e, Nat.add_eq_zero_iff, Nat.add_right_cancel_iff, Nat.add_left_cancel_iff]; exact h⟩
theorem in_tot (x a b : Int32) : fX6_in x a b = some 0 ∨ fX6_in x a b = some 1 := by
  unfold fX6_in
  by_cases h1 : x < a
  · rw [if_pos h1]; exact Or.inl rfl
  · rw [if_neg h1]
    by_cases h2 : b < x
    · rw [if_pos h2]; exact Or.inl rfl
    · rw [if_neg h2]; exact Or.inr rfl
theorem ri_w {τ : Mem} (h3 : mI τ 0 23 = 1) (b1 n1 : Nat) (x2 x3 x4 : Int32) : ∃ y, fX6_readInto τ 0 0 b1 n1 x2 x3 x4 = some (y, sI τ 0 23 1) := by
  have h23 : ¬ mI (sI τ 0 23 1) 0 23 = 0 := by
    simp only [mI_sI, mI_sL, mI_sP, mI_sA, mI_sB, mL_sI, mL_sL, mL_sP, mL_sA, mL_sB, mP_sI, mP_sL, mP_sP, mP_sA, mP_sB, mA_sI, mA_sL, mA_sP, mA_sAg, mA_sB, mB_sI, mB_sL, mB_sP, mB_sA, mB_sBg, mE_sI, mE_sL, mE_sP, mE_sA, mE_sB, Nat.reduceEqDiff, Nat.reduceAdd, Nat.reduceMul, Nat.reduceSub, Nat.reduceLT, Nat.reduceLeDiff, Nat.reduceDiv, Nat.reduceMod, Nat.reduceBEq, and_true, true_and, and_false, false_and, and_self, ite_true, ite_false, if_true, if_false, reduceIte, eq_self, not_true, not_false_eq_true, Bool.true_and, Bool.and_true, Bool.false_and, Bool.and_false, Bool.or_true, Bool.true_or, Bool.or_false, Bool.false_or, Bool.not_true, Bool.not_false, reduceCtorEq, upd_e, Nat.add_eq_zero_iff, Nat.add_right_cancel_iff, Nat.add_left_cancel_iff]; decide
  have e31 : ∀ xs, fX6_readInto_31 0 τ 0 b1 n1 x2 (mI τ 0 22) xs = some (mI τ 0 22, sI τ 0 23 1) := fun xs => by
    unfold fX6_readInto_31
    rw [must_w h3, bd_s, if_neg h23]
  refine ⟨mI τ 0 22, ?_⟩
  unfold fX6_readInto
  rw [e31, e31]
  by_cases h : mI τ 0 21 = 2
  · rw [if_pos h]
    rcases in_tot (mI τ 0 22) x3 x4 with e | e
    · rw [e, bd_s, if_pos rfl]
    · rw [e, bd_s, if_neg (by decide)]
  · rw [if_neg h]
theorem kdX_lt {X : XV} (hX : XOK X) {s : Nat} : kdX X s < 256 := by
  unfold kdX
  by_cases e : X.1 ≤ s
  · rw [if_pos e]; decide
  · rw [if_neg e]
    have := hX.2 s (by omega)
    split
    · split
      · decide
      · split <;> decide
    · split
      · exact this
      · decide
theorem tmk_lt (k : Nat) : tmk k ≤ 4 := by
  unfold tmk
  split
  · omega
  · split
    · omega
    · split
      · omega
      · split <;> omega
theorem tmk_2 {k : Nat} : (nI (tmk k) = (2 : Int32)) ↔ k = 1 := by
  have := tmk_lt k
  rw [show (2 : Int32) = nI 2 from rfl, eqN (by omega) (by omega)]
  unfold tmk
  by_cases h0 : k = 0
  · rw [if_pos h0]; omega
  · rw [if_neg h0]
    by_cases h1 : k = 1
    · rw [if_pos h1]; omega
    · rw [if_neg h1]
      split
      · omega
      · split <;> omega
theorem tmk_3 {k : Nat} : (nI (tmk k) = (3 : Int32)) ↔ k = 59 := by
  have := tmk_lt k
  rw [show (3 : Int32) = nI 3 from rfl, eqN (by omega) (by omega)]
  unfold tmk
  by_cases h0 : k = 0
  · rw [if_pos h0]; omega
  · rw [if_neg h0]
    by_cases h1 : k = 1
    · rw [if_pos h1]; omega
    · rw [if_neg h1]
      by_cases h2 : k = 2
      · rw [if_pos h2]; omega
      · rw [if_neg h2]
        by_cases h5 : k = 59
        · rw [if_pos h5]; omega
        · rw [if_neg h5]; omega
theorem ri_ok {X : XV} (hX : XOK X) {τ : Mem} {b : Nat} (hb : b ≤ X.1) (h : MOKx τ X b) {b1 n1 k lo hi : Nat} (hb1 : 24 ≤ b1) (hk : k < n1) (hn1 : n1 < 1000) (hkd : kdX X (skX X b) = 1) (h1 : lo ≤ vlX X b) (h2 : vlX X b ≤ hi) (hhi : hi < 10000) : ∃ τ', fX6_readInto τ 0 0 b1 n1 (nI k) (nI lo) (nI hi) = some (nI (vlX X b), τ') ∧ MOKx τ' X (nxX X b) ∧ mA τ' 0 b1 = upd (mA τ 0 b1) k (nI (vlX X b)) ∧ sameX (fun _ k => (19 ≤ k ∧ k ≤ 23) ∨ k = b1) τ τ' := by
  obtain ⟨τ1, e1, m1, s1⟩ := must_ok hX hb h
  have h22 := h.2.1.2.2.2.1 hkd
  have e21 : mI τ 0 21 = 2 := by rw [h.2.1.2.1]; exact tmk_2.mpr hkd
  have s2 : sameX (fun _ k => k = b1) τ1 (sA τ1 0 b1 k (nI (vlX X b))) := by repeat (first | exact sameX.rf | refine sameX.sI ?_ (by first | rfl | exact Or.inl rfl | exact Or.inr rfl | trivial | decide | omega | simp) _ | refine sameX.sA ?_ (by first | rfl | exact Or.inl rfl | exact Or.inr rfl | trivial | decide | omega | simp) _ _ | refine sameX.sL ?_ (by first | rfl | exact Or.inl rfl | exact Or.inr rfl | trivial | decide | omega | simp) _ | refine sameX.sP ?_ (by first | rfl | exact Or.inl rfl | exact Or.inr rfl | trivial | decide | omega | simp) _ | refine sameX.sB ?_ (by first | rfl | exact Or.inl rfl | exact Or.inr rfl | trivial | decide | omega | simp) _ _)
  refine ⟨sA τ1 0 b1 k (nI (vlX X b)), ?_, m1.keep s2 (fun k h1 h2 => by omega), ?_, (s1.mono (fun o k h => Or.inl h)).tr (s2.mono (fun o k h => Or.inr h))⟩
  · unfold fX6_readInto fX6_readInto_31
    rw [if_pos e21, h22, inr_yes h1 h2 (by omega), bd_s, if_neg (show ¬ (1 : Int32) = 0 by decide), e1, bd_s, if_pos m1.2.2, gd_in hk (by omega), clampN (by omega), stp_s]
  · simp only [mI_sI, mI_sL, mI_sP, mI_sA, mI_sB, mL_sI, mL_sL, mL_sP, mL_sA, mL_sB, mP_sI, mP_sL, mP_sP, mP_sA, mP_sB, mA_sI, mA_sL, mA_sP, mA_sAg, mA_sB, mB_sI, mB_sL, mB_sP, mB_sA, mB_sBg, mE_sI, mE_sL, mE_sP, mE_sA, mE_sB, Nat.reduceEqDiff, Nat.reduceAdd, Nat.reduceMul, Nat.reduceSub, Nat.reduceLT, Nat.reduceLeDiff, Nat.reduceDiv, Nat.reduceMod, Nat.reduceBEq, and_true, true_and, and_false, false_and, and_self, ite_true, ite_false, if_true, if_false, reduceIte, eq_self, not_true, not_false_eq_true, Bool.true_and, Bool.and_true, Bool.false_and, Bool.and_false, Bool.or_true, Bool.true_or, Bool.or_false, Bool.false_or, Bool.not_true, Bool.not_false, reduceCtorEq, upd_e, Nat.add_eq_zero_iff, Nat.add_right_cancel_iff, Nat.add_left_cancel_iff]
    rw [(s1 0 b1 (by omega)).2.2.2.1]
theorem ri_bad {X : XV} {τ : Mem} {b : Nat} (h : MOKx τ X b) {b1 n1 lo hi : Nat} {x2 : Int32} (hno : ¬ (kdX X (skX X b) = 1 ∧ lo ≤ vlX X b ∧ vlX X b ≤ hi)) (hhi : hi < 10000) (hlo : lo < 10000) : ∃ y, fX6_readInto τ 0 0 b1 n1 x2 (nI lo) (nI hi) = some (y, sI τ 0 23 1) := by
  have h23 : ¬ mI (sI τ 0 23 1) 0 23 = 0 := by
    simp only [mI_sI, mI_sL, mI_sP, mI_sA, mI_sB, mL_sI, mL_sL, mL_sP, mL_sA, mL_sB, mP_sI, mP_sL, mP_sP, mP_sA, mP_sB, mA_sI, mA_sL, mA_sP, mA_sAg, mA_sB, mB_sI, mB_sL, mB_sP, mB_sA, mB_sBg, mE_sI, mE_sL, mE_sP, mE_sA, mE_sB, Nat.reduceEqDiff, Nat.reduceAdd, Nat.reduceMul, Nat.reduceSub, Nat.reduceLT, Nat.reduceLeDiff, Nat.reduceDiv, Nat.reduceMod, Nat.reduceBEq, and_true, true_and, and_false, false_and, and_self, ite_true, ite_false, if_true, if_false, reduceIte, eq_self, not_true, not_false_eq_true, Bool.true_and, Bool.and_true, Bool.false_and, Bool.and_false, Bool.or_true, Bool.true_or, Bool.or_false, Bool.false_or, Bool.not_true, Bool.not_false, reduceCtorEq, upd_e, Nat.add_eq_zero_iff, Nat.add_right_cancel_iff, Nat.add_left_cancel_iff]; decide
  have e31 : fX6_readInto_31 0 τ 0 b1 n1 x2 (mI τ 0 22) 0 = some (mI τ 0 22, sI τ 0 23 1) := by
    unfold fX6_readInto_31
    rw [must_bad h.2.2, bd_s, if_neg h23]
  refine ⟨mI τ 0 22, ?_⟩
  unfold fX6_readInto
  rw [e31]
  by_cases hkd : kdX X (skX X b) = 1
  · have h22 := h.2.1.2.2.2.1 hkd
    have hv := (kdX_1 hkd).2
    have e21 : mI τ 0 21 = 2 := by rw [h.2.1.2.1]; exact tmk_2.mpr hkd
    have ein : fX6_in (mI τ 0 22) (nI lo) (nI hi) = some 0 := by
      rw [h22]
      refine inr_no ?_
      rw [ltN (by omega) (by omega), ltN (by omega) (by omega)]
      rcases Nat.lt_or_ge (vlX X b) lo with q | q
      · exact Or.inl q
      · exact Or.inr (Nat.lt_of_not_le (fun w => hno ⟨hkd, q, w⟩))
    rw [if_pos e21, ein, bd_s, if_pos rfl]
  · have e21 : ¬ mI τ 0 21 = 2 := by rw [h.2.1.2.1]; exact fun w => hkd (tmk_2.mp w)
    rw [if_neg e21]
/-! the class's steps -/
theorem C_rd {X : XV} (hX : XOK X) {σ : Mem} (hT : TC σ X) {b : Nat} (hb : b ≤ X.1) (h4 : mI σ 1 4 = nI b) {n i w q2 : Nat} {x2 : Int32} (hi : i < w) (hw : w ≤ 3) : ∃ σ1, CTk σ1 X b ∧ sameX FLc σ σ1 ∧ fX4_readItem_41 1 (n + 1) σ q2 x2 (nI w) (nI i) = (if kdX X (skX X b) = 1 then bd (fX4_fits σ1 1 x2 (nI i)) (fun r20 => if r20 = 0 then some (0, σ1) else fX4_readItem_41 1 n (sA σ1 1 6 i (nI (vlX X b))) q2 x2 (nI w) (nI (i + 1))) else some (0, σ1)) := by
  obtain ⟨σ1, e1, c1, s1⟩ := C_next hX hT hb h4
  refine ⟨σ1, c1, s1, ?_⟩
  have hk := kdX_lt hX (s := skX X b)
  rw [fX4_readItem_41.eq_2, iteLE (by omega) (by omega), if_neg (by omega), e1, bd_s, c1.1, l1, iteE (by omega) (by omega)]
  by_cases e : kdX X (skX X b) = 1
  · rw [if_pos e, if_pos e, gd_in (show i < 3 by omega) (by decide), clampN (by omega), c1.2.2.2 e, ← l1, nI_1]
    rfl
  · rw [if_neg e, if_neg e]
theorem C_rdE {X : XV} (hX : XOK X) {σ : Mem} (hT : TC σ X) {b : Nat} (hb : b ≤ X.1) (h4 : mI σ 1 4 = nI b) {n w q2 : Nat} {x2 : Int32} (hw : w ≤ 3) : ∃ σ1, CTk σ1 X b ∧ sameX FLc σ σ1 ∧ fX4_readItem_41 1 (n + 1) σ q2 x2 (nI w) (nI w) = (if kdX X (skX X b) = 59 then bd (fX4_tell σ1 1 x2 q2) (fun σ17 => some (1, σ17)) else some (0, σ1)) := by
  obtain ⟨σ1, e1, c1, s1⟩ := C_next hX hT hb h4
  refine ⟨σ1, c1, s1, ?_⟩
  have hk := kdX_lt hX (s := skX X b)
  rw [fX4_readItem_41.eq_2, iteLE (by omega) (by omega), if_pos (by omega), e1, bd_s, c1.1, show (59 : Int32) = nI 59 from rfl, iteE (by omega) (by omega)]
theorem fitsR {hi v : Nat} (hhi : hi < 10000) (hv : v ≤ 1023) : (if nI v < (1 : Int32) then some (0 : Int32) else if nI hi < nI v then some 0 else some 1) = some (if 1 ≤ v ∧ v ≤ hi then 1 else 0) := by
  rw [l1, iteL (by omega) (by omega), iteL (by omega) (by omega)]
  by_cases h1 : v < 1
  · rw [if_pos h1, if_neg (by omega)]
  · rw [if_neg h1]
    by_cases h2 : hi < v
    · rw [if_pos h2, if_neg (by omega)]
    · rw [if_neg h2, if_pos (by omega)]
theorem fits_b {σ : Mem} {v : Nat} (hv : v ≤ 1023) (h : mI σ 1 5 = nI v) (x : Int32) : fX4_fits σ 1 (nI 98) x = some (if 1 ≤ v ∧ v ≤ 9 then 1 else 0) := by
  unfold fX4_fits
  rw [if_pos (show nI 98 = 98 from rfl), h]
  exact fitsR (hi := 9) (by decide) hv
theorem fits_q {σ : Mem} {v : Nat} (hv : v ≤ 1023) (h : mI σ 1 5 = nI v) (x : Int32) : fX4_fits σ 1 (nI 113) x = some (if 1 ≤ v ∧ v ≤ 40 then 1 else 0) := by
  unfold fX4_fits
  rw [if_neg (show ¬ nI 113 = 98 by decide), if_pos (show nI 113 = 113 from rfl), h]
  exact fitsR (hi := 40) (by decide) hv
theorem fits_r {σ : Mem} {v : Nat} (hv : v ≤ 1023) (h : mI σ 1 5 = nI v) (x : Int32) : fX4_fits σ 1 (nI 114) x = some (if 1 ≤ v ∧ v ≤ 3 then 1 else 0) := by
  unfold fX4_fits
  rw [if_neg (show ¬ nI 114 = 98 by decide), if_neg (show ¬ nI 114 = 113 by decide), if_pos (show nI 114 = 114 from rfl), h]
  exact fitsR (hi := 3) (by decide) hv
theorem leI1 {hi v : Nat} (hhi : hi < 10000) (hv : v ≤ 1023) : (if nI hi < nI v then some (0 : Int32) else some 1) = some (if v ≤ hi then 1 else 0) := by
  rw [iteL (by omega) (by omega)]
  by_cases h2 : hi < v
  · rw [if_pos h2, if_neg (by omega)]
  · rw [if_neg h2, if_pos (by omega)]
theorem fits_t0 {σ : Mem} {v : Nat} (hv : v ≤ 1023) (h : mI σ 1 5 = nI v) : fX4_fits σ 1 (nI 116) (nI 0) = some (if v ≤ 40 then 1 else 0) := by
  unfold fX4_fits fX4_fits_127
  rw [if_neg (show ¬ nI 116 = 98 by decide), if_neg (show ¬ nI 116 = 113 by decide), if_neg (show ¬ nI 116 = 114 by decide), if_pos (show nI 116 = 116 from rfl), if_pos (show nI 0 = 0 from rfl), h]
  exact leI1 (hi := 40) (by decide) hv
theorem fits_t1 {σ : Mem} {v : Nat} (hv : v ≤ 1023) (h : mI σ 1 5 = nI v) : fX4_fits σ 1 (nI 116) (nI (0 + 1)) = some (if v ≤ 10 then 1 else 0) := by
  unfold fX4_fits fX4_fits_127
  rw [if_neg (show ¬ nI 116 = 98 by decide), if_neg (show ¬ nI 116 = 113 by decide), if_neg (show ¬ nI 116 = 114 by decide), if_pos (show nI 116 = 116 from rfl), if_neg (show ¬ nI (0 + 1) = 0 by decide), h]
  exact leI1 (hi := 10) (by decide) hv
theorem fits_k0 {σ : Mem} {v : Nat} (hv : v ≤ 1023) (h : mI σ 1 5 = nI v) : fX4_fits σ 1 (nI 107) (nI 0) = some 1 := by
  unfold fX4_fits
  rw [if_neg (show ¬ nI 107 = 98 by decide), if_neg (show ¬ nI 107 = 113 by decide), if_neg (show ¬ nI 107 = 114 by decide), if_neg (show ¬ nI 107 = 116 by decide), if_pos (show nI 0 = 0 from rfl), h, fa_lit 1023, iteL (by omega) (by omega), if_neg (by omega)]
theorem fits_k1 {σ : Mem} {v : Nat} (hv : v ≤ 1023) (h : mI σ 1 5 = nI v) : fX4_fits σ 1 (nI 107) (nI (0 + 1)) = some (if v ≤ 10 then 1 else 0) := by
  unfold fX4_fits
  rw [if_neg (show ¬ nI 107 = 98 by decide), if_neg (show ¬ nI 107 = 113 by decide), if_neg (show ¬ nI 107 = 114 by decide), if_neg (show ¬ nI 107 = 116 by decide), if_neg (show ¬ nI (0 + 1) = 0 by decide), if_pos (show nI (0 + 1) = 1 from rfl), h]
  exact leI1 (hi := 10) (by decide) hv
def gwM (m v : Nat) : Prop := (m = 10 ∧ v = 10) ∨ (¬ m = 10 ∧ v < 10 ∧ ¬ v = m)
theorem fits_k2 {σ : Mem} {v m : Nat} (hv : v ≤ 1023) (hm : m ≤ 10) (h : mI σ 1 5 = nI v) (h6 : mA σ 1 6 1 = nI m) : (gwM m v → fX4_fits σ 1 (nI 107) (nI (0 + 1 + 1)) = some 1) ∧ (¬ gwM m v → fX4_fits σ 1 (nI 107) (nI (0 + 1 + 1)) = some 0) := by
  have e : fX4_fits σ 1 (nI 107) (nI (0 + 1 + 1)) = bd (fX4_goesWithM σ 1) (fun r32 => gd (zb r32) (some r32)) := by
    unfold fX4_fits
    rw [if_neg (show ¬ nI 107 = 98 by decide), if_neg (show ¬ nI 107 = 113 by decide), if_neg (show ¬ nI 107 = 114 by decide), if_neg (show ¬ nI 107 = 116 by decide), if_neg (show ¬ nI (0 + 1 + 1) = 0 by decide), if_neg (show ¬ nI (0 + 1 + 1) = 1 by decide)]
  have g : fX4_goesWithM σ 1 = if m = 10 then (if v = 10 then some 1 else some 0) else if 10 ≤ v then some 0 else if v = m then some 0 else some 1 := by
    unfold fX4_goesWithM
    rw [l1, gd_in (show 1 < 3 by decide) (by decide), clampN (by decide), h6, h, show (10 : Int32) = nI 10 from rfl, iteE (by omega) (by omega), iteE (by omega) (by omega), iteLE (by omega) (by omega), iteE (by omega) (by omega)]
  rw [e, g]
  unfold gwM
  by_cases h1 : m = 10
  · by_cases h2 : v = 10
    · exact ⟨fun _ => by rw [if_pos h1, if_pos h2]; rfl, fun w => absurd (Or.inl ⟨h1, h2⟩) w⟩
    · exact ⟨fun w => by omega, fun _ => by rw [if_pos h1, if_neg h2]; rfl⟩
  · by_cases h2 : 10 ≤ v
    · exact ⟨fun w => by omega, fun _ => by rw [if_neg h1, if_pos h2]; rfl⟩
    · by_cases h3 : v = m
      · exact ⟨fun w => by omega, fun _ => by rw [if_neg h1, if_neg h2, if_pos h3]; rfl⟩
      · exact ⟨fun _ => by rw [if_neg h1, if_neg h2, if_neg h3]; rfl, fun w => absurd (Or.inr ⟨h1, by omega, h3⟩) w⟩
