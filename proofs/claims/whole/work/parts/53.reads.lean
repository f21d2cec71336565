/-! a number read as a letter -/
def isW : Nat → Nat → Bool
  | 0, v => decide (v = 1)
  | r + 1, v => if v < 11 then decide (v = 1) else decide (v % 11 ≤ 9) && isW r (v / 11)
def chk : Nat → Nat → Bool
  | 0, v => decide (v = 1)
  | r + 1, v => if v < 11 then decide (v = 1) else chk r (v / 11)
def lc : Nat → Nat → Nat
  | 0, _ => 0
  | f + 1, v => if v < 11 then 0 else b2n (decide (v % 11 = 10)) + lc f (v / 11)
theorem lc_1 : ∀ f, lc f 1 = 0
  | 0 => rfl
  | f + 1 => if_pos (by decide)
theorem chk_isW : ∀ (r f v : Nat), r ≤ f → isW r v = (chk r v && decide (lc f v = 0))
  | 0, f, v, _ => by
    show decide (v = 1) = (decide (v = 1) && decide (lc f v = 0))
    by_cases e : v = 1
    · subst e; rw [decide_eq_true (lc_1 f)]; rfl
    · rw [decide_eq_false e]; rfl
  | r + 1, f, v, h => by
    obtain ⟨f, rfl⟩ : ∃ g, f = g + 1 := ⟨f - 1, by omega⟩
    have ih := chk_isW r f (v / 11) (by omega)
    show (if v < 11 then decide (v = 1) else decide (v % 11 ≤ 9) && isW r (v / 11)) = ((if v < 11 then decide (v = 1) else chk r (v / 11)) && decide ((if v < 11 then 0 else b2n (decide (v % 11 = 10)) + lc f (v / 11)) = 0))
    by_cases e : v < 11
    · rw [if_pos e, if_pos e, if_pos e, decide_eq_true rfl, Bool.and_true]
    · rw [if_neg e, if_neg e, if_neg e, ih]
      by_cases e2 : v % 11 = 10
      · rw [decide_eq_true e2, decide_eq_false (show ¬ v % 11 ≤ 9 by omega), b2n_t, decide_eq_false (show ¬ 1 + lc f (v / 11) = 0 by omega), Bool.and_false, Bool.false_and]
      · rw [decide_eq_false e2, decide_eq_true (show v % 11 ≤ 9 by omega), b2n_f, Nat.zero_add, Bool.true_and]
theorem C_lc : ∀ (f v c n : Nat), v < 11 ^ (f + 1) → v < 2147483648 → f < n → fX5_lostIn_4 n (nI c) (nI v) = some (nI (c + lc f v)) := by
  intro f
  induction f with
  | zero =>
    intro v c n hv hv2 hn
    obtain ⟨n, rfl⟩ : ∃ m, n = m + 1 := ⟨n - 1, by omega⟩
    have : v < 11 := hv
    rw [fX5_lostIn_4.eq_2, show (11 : Int32) = nI 11 from rfl, iteL (by omega) (by omega), if_pos this]
    rfl
  | succ f ih =>
    intro v c n hv hv2 hn
    obtain ⟨n, rfl⟩ : ∃ m, n = m + 1 := ⟨n - 1, by omega⟩
    have hm := Nat.mod_lt v (show 0 < 11 by decide)
    rw [fX5_lostIn_4.eq_2, show (11 : Int32) = nI 11 from rfl, iteL (by omega) (by omega)]
    by_cases e : v < 11
    · rw [if_pos e]
      show _ = some (nI (c + (if v < 11 then 0 else _)))
      rw [if_pos e]; rfl
    · have hd : v / 11 < 11 ^ (f + 1) := by
        rw [Nat.pow_succ] at hv
        exact Nat.div_lt_of_lt_mul (by omega)
      rw [if_neg e, remN (by omega) (by omega) (by omega), pk_div (by omega) (by omega) (by omega), show (10 : Int32) = nI 10 from rfl, iteE (by omega) (by omega), nI_1, ih (v / 11) (c + 1) n hd (by omega) (by omega), ih (v / 11) c n hd (by omega) (by omega)]
      show _ = some (nI (c + (if v < 11 then 0 else b2n (decide (v % 11 = 10)) + lc f (v / 11))))
      rw [if_neg e]
      by_cases e2 : v % 11 = 10
      · rw [if_pos e2, decide_eq_true e2, b2n_t, Nat.add_assoc]
      · rw [if_neg e2, decide_eq_false e2, b2n_f, Nat.zero_add]
theorem C_48 {v : Nat} (h : v < 2147483648) : fX5_isWholeLetter_48 (nI v) = some (nI (b2n (decide (v = 1)))) := by
  unfold fX5_isWholeLetter_48
  rw [l1, iteE (by omega) (by omega)]
  by_cases e : v = 1
  · rw [if_pos e, decide_eq_true e]; rfl
  · rw [if_neg e, decide_eq_false e]; rfl
theorem C_chk : ∀ (r c v n : Nat), c + r = 5 → r < n → v < 2147483648 → fX5_isWholeLetter_26 n (nI v) (nI c) = some (nI (b2n (chk r v))) := by
  intro r
  induction r with
  | zero =>
    intro c v n hc hn hv
    obtain ⟨n, rfl⟩ : ∃ m, n = m + 1 := ⟨n - 1, by omega⟩
    rw [fX5_isWholeLetter_26.eq_2, show (5 : Int32) = nI 5 from rfl, iteLE (by omega) (by omega), if_pos (by omega), C_48 hv]
    rfl
  | succ r ih =>
    intro c v n hc hn hv
    obtain ⟨n, rfl⟩ : ∃ m, n = m + 1 := ⟨n - 1, by omega⟩
    have hch : chk (r + 1) v = if v < 11 then decide (v = 1) else chk r (v / 11) := rfl
    rw [fX5_isWholeLetter_26.eq_2, show (5 : Int32) = nI 5 from rfl, iteLE (by omega) (by omega), if_neg (by omega), show (11 : Int32) = nI 11 from rfl, iteL (by omega) (by omega), hch]
    by_cases e : v < 11
    · rw [if_pos e, if_pos e, C_48 hv]
    · rw [if_neg e, if_neg e, pk_div (by omega) (by omega) (by omega), nI_1, ih (c + 1) (v / 11) n (by omega) (by omega) (by omega)]
theorem C_whole {v : Nat} (h1 : 11 ≤ v) (h2 : v ≤ 322101) : fX5_isWholeLetter (nI v) = some (nI (b2n (isW 5 v))) := by
  have e6 : (11 : Nat) ^ (5 + 1) = 1771561 := by decide
  have cl := C_lc 5 v 0 FU (by omega) (by omega) (by decide)
  have cc := C_chk 5 0 v FU (by omega) (by decide) (by omega)
  have hl : lc 5 v ≤ 5 := by
    have : ∀ f v, lc f v ≤ f := fun f => by
      induction f with
      | zero => intro v; exact Nat.le_refl 0
      | succ f ih =>
        intro v
        show (if v < 11 then 0 else b2n (decide (v % 11 = 10)) + lc f (v / 11)) ≤ f + 1
        have := ih (v / 11)
        have := b2n_le (decide (v % 11 = 10))
        split <;> omega
    exact this 5 v
  have cl : fX5_lostIn (nI v) = some (nI (0 + lc 5 v)) := cl
  rw [Nat.zero_add] at cl
  unfold fX5_isWholeLetter
  rw [show (11 : Int32) = nI 11 from rfl, iteL (by omega) (by omega), if_neg (by omega), show (322101 : Int32) = nI 322101 from rfl, iteL (by omega) (by omega), if_neg (by omega), cl, bd_s, l0, iteE (by omega) (by omega), cc, chk_isW 5 5 v (Nat.le_refl 5)]
  by_cases e : lc 5 v = 0
  · rw [if_pos e, decide_eq_true e, Bool.and_true]
  · rw [if_neg e, decide_eq_false e, Bool.and_false]; rfl
theorem C_whole_no {x : Int32} (h : x < nI 11 ∨ nI 322101 < x) : fX5_isWholeLetter x = some 0 := by
  unfold fX5_isWholeLetter
  rcases h with h | h
  · exact if_pos h
  · by_cases e : x < 11
    · exact if_pos e
    · rw [if_neg e]; exact if_pos h
theorem M_r55 (K : Mem → Int32 → Int32 → Option (Int32 × Mem)) (b : Int32) {v L : Nat} (hv : v < 2147483648) (hL : L ≤ 4) : ∀ (j n : Nat) (τ : Mem), j ≤ L → j < n → mI τ 0 37 = nI L → ∃ τ', fX6_reads_55 K 0 n τ b (nI v) (nI j) = K τ' b (nI (v / 11)) ∧ mI τ' 0 37 = nI (L + 1) ∧ mA τ' 0 35 0 = nI (v % 11) ∧ (∀ i, 0 < i → mA τ' 0 35 i = if i ≤ j then mA τ 0 35 (i - 1) else mA τ 0 35 i) ∧ sameX (fun _ k => k = 35 ∨ k = 37) τ τ' := by
  intro j
  induction j with
  | zero =>
    intro n τ hj hn h37
    obtain ⟨n, rfl⟩ : ∃ m, n = m + 1 := ⟨n - 1, by omega⟩
    refine ⟨sI (sA τ 0 35 0 (nI (v % 11))) 0 37 (nI (L + 1)), ?_, ?_, ?_, fun i hi => ?_, by repeat (first | exact sameX.rf | refine sameX.sI ?_ (by first | rfl | exact Or.inl rfl | exact Or.inr rfl | trivial | decide | omega | simp) _ | refine sameX.sA ?_ (by first | rfl | exact Or.inl rfl | exact Or.inr rfl | trivial | decide | omega | simp) _ _ | refine sameX.sL ?_ (by first | rfl | exact Or.inl rfl | exact Or.inr rfl | trivial | decide | omega | simp) _ | refine sameX.sP ?_ (by first | rfl | exact Or.inl rfl | exact Or.inr rfl | trivial | decide | omega | simp) _ | refine sameX.sB ?_ (by first | rfl | exact Or.inl rfl | exact Or.inr rfl | trivial | decide | omega | simp) _ _)⟩
    · rw [fX6_reads_55.eq_2, if_pos (show nI 0 ≤ 0 by decide), l0, gd_in (by decide) (by decide), clampN (by decide), show (11 : Int32) = nI 11 from rfl, remN hv (by decide) (by decide), pk_div hv (by decide) (by decide), stp_s, stp_s, mI_sA, h37, l1, nI_add]
    · simp only [mI_sI, mI_sL, mI_sP, mI_sA, mI_sB, mL_sI, mL_sL, mL_sP, mL_sA, mL_sB, mP_sI, mP_sL, mP_sP, mP_sA, mP_sB, mA_sI, mA_sL, mA_sP, mA_sAg, mA_sB, mB_sI, mB_sL, mB_sP, mB_sA, mB_sBg, mE_sI, mE_sL, mE_sP, mE_sA, mE_sB, Nat.reduceEqDiff, Nat.reduceAdd, Nat.reduceMul, Nat.reduceSub, Nat.reduceLT, Nat.reduceLeDiff, Nat.reduceDiv, Nat.reduceMod, Nat.reduceBEq, and_true, true_and, and_false, false_and, and_self, ite_true, ite_false, if_true, if_false, reduceIte, eq_self, not_true, not_false_eq_true, Bool.true_and, Bool.and_true, Bool.false_and, Bool.and_false, Bool.or_true, Bool.true_or, Bool.or_false, Bool.false_or, Bool.not_true, Bool.not_false, reduceCtorEq, upd_e, Nat.add_eq_zero_iff, Nat.add_right_cancel_iff, Nat.add_left_cancel_iff]
    · simp only [mI_sI, mI_sL, mI_sP, mI_sA, mI_sB, mL_sI, mL_sL, mL_sP, mL_sA, mL_sB, mP_sI, mP_sL, mP_sP, mP_sA, mP_sB, mA_sI, mA_sL, mA_sP, mA_sAg, mA_sB, mB_sI, mB_sL, mB_sP, mB_sA, mB_sBg, mE_sI, mE_sL, mE_sP, mE_sA, mE_sB, Nat.reduceEqDiff, Nat.reduceAdd, Nat.reduceMul, Nat.reduceSub, Nat.reduceLT, Nat.reduceLeDiff, Nat.reduceDiv, Nat.reduceMod, Nat.reduceBEq, and_true, true_and, and_false, false_and, and_self, ite_true, ite_false, if_true, if_false, reduceIte, eq_self, not_true, not_false_eq_true, Bool.true_and, Bool.and_true, Bool.false_and, Bool.and_false, Bool.or_true, Bool.true_or, Bool.or_false, Bool.false_or, Bool.not_true, Bool.not_false, reduceCtorEq, upd_e, Nat.add_eq_zero_iff, Nat.add_right_cancel_iff, Nat.add_left_cancel_iff]
    · simp only [mI_sI, mI_sL, mI_sP, mI_sA, mI_sB, mL_sI, mL_sL, mL_sP, mL_sA, mL_sB, mP_sI, mP_sL, mP_sP, mP_sA, mP_sB, mA_sI, mA_sL, mA_sP, mA_sAg, mA_sB, mB_sI, mB_sL, mB_sP, mB_sA, mB_sBg, mE_sI, mE_sL, mE_sP, mE_sA, mE_sB, Nat.reduceEqDiff, Nat.reduceAdd, Nat.reduceMul, Nat.reduceSub, Nat.reduceLT, Nat.reduceLeDiff, Nat.reduceDiv, Nat.reduceMod, Nat.reduceBEq, and_true, true_and, and_false, false_and, and_self, ite_true, ite_false, if_true, if_false, reduceIte, eq_self, not_true, not_false_eq_true, Bool.true_and, Bool.and_true, Bool.false_and, Bool.and_false, Bool.or_true, Bool.true_or, Bool.or_false, Bool.false_or, Bool.not_true, Bool.not_false, reduceCtorEq, upd_e, Nat.add_eq_zero_iff, Nat.add_right_cancel_iff, Nat.add_left_cancel_iff]
      rw [if_neg (by omega), if_neg (by omega)]
  | succ j ih =>
    intro n τ hj hn h37
    obtain ⟨n, rfl⟩ : ∃ m, n = m + 1 := ⟨n - 1, by omega⟩
    obtain ⟨τ', e1, a1, a2, a3, s1⟩ := ih n (sA τ 0 35 (j + 1) (mA τ 0 35 j)) (by omega) (by omega) (by simp only [mI_sI, mI_sL, mI_sP, mI_sA, mI_sB, mL_sI, mL_sL, mL_sP, mL_sA, mL_sB, mP_sI, mP_sL, mP_sP, mP_sA, mP_sB, mA_sI, mA_sL, mA_sP, mA_sAg, mA_sB, mB_sI, mB_sL, mB_sP, mB_sA, mB_sBg, mE_sI, mE_sL, mE_sP, mE_sA, mE_sB]; exact h37)
    refine ⟨τ', ?_, a1, a2, fun i hi => ?_, sameX.tr (by repeat (first | exact sameX.rf | refine sameX.sI ?_ (by first | rfl | exact Or.inl rfl | exact Or.inr rfl | trivial | decide | omega | simp) _ | refine sameX.sA ?_ (by first | rfl | exact Or.inl rfl | exact Or.inr rfl | trivial | decide | omega | simp) _ _ | refine sameX.sL ?_ (by first | rfl | exact Or.inl rfl | exact Or.inr rfl | trivial | decide | omega | simp) _ | refine sameX.sP ?_ (by first | rfl | exact Or.inl rfl | exact Or.inr rfl | trivial | decide | omega | simp) _ | refine sameX.sB ?_ (by first | rfl | exact Or.inl rfl | exact Or.inr rfl | trivial | decide | omega | simp) _ _)) s1⟩
    · rw [fX6_reads_55.eq_2, if_neg (by rw [l0, leN (by omega) (by omega)]; omega), nI_pred, gd_in (by omega) (by decide), gd_in (by omega) (by decide), clampN (by omega), clampN (by omega), stp_s, pk_m1]
      exact e1
    · rw [a3 i hi]
      simp only [mI_sI, mI_sL, mI_sP, mI_sA, mI_sB, mL_sI, mL_sL, mL_sP, mL_sA, mL_sB, mP_sI, mP_sL, mP_sP, mP_sA, mP_sB, mA_sI, mA_sL, mA_sP, mA_sAg, mA_sB, mB_sI, mB_sL, mB_sP, mB_sA, mB_sBg, mE_sI, mE_sL, mE_sP, mE_sA, mE_sB, Nat.reduceEqDiff, Nat.reduceAdd, Nat.reduceMul, Nat.reduceSub, Nat.reduceLT, Nat.reduceLeDiff, Nat.reduceDiv, Nat.reduceMod, Nat.reduceBEq, and_true, true_and, and_false, false_and, and_self, ite_true, ite_false, if_true, if_false, reduceIte, eq_self, not_true, not_false_eq_true, Bool.true_and, Bool.and_true, Bool.false_and, Bool.and_false, Bool.or_true, Bool.true_or, Bool.or_false, Bool.false_or, Bool.not_true, Bool.not_false, reduceCtorEq, upd_e, Nat.add_eq_zero_iff, Nat.add_right_cancel_iff, Nat.add_left_cancel_iff]
      by_cases e1 : i ≤ j
      · rw [if_pos e1, if_neg (by omega), if_pos (by omega)]
      · rw [if_neg e1]
        by_cases e2 : i = j + 1
        · rw [if_pos e2, if_pos (by omega), e2]; rfl
        · rw [if_neg e2, if_neg (by omega)]
theorem M_110 {τ : Mem} {b : Bool} {v : Nat} (hv : v < 2147483648) : fX6_reads_110 0 τ (nI (b2n b)) (nI v) = some (nI (b2n (b && decide (v = 1))), τ) := by
  unfold fX6_reads_110
  cases b
  · rfl
  · rw [if_neg (by decide), l1, iteE (by omega) (by omega)]
    by_cases e : v = 1
    · rw [if_pos e, decide_eq_true e]; rfl
    · rw [if_neg e, decide_eq_false e]; rfl
theorem M_r16 : ∀ (r v L n : Nat) (τ : Mem) (b : Bool), L + r = 5 → r < n → v < 2147483648 → mI τ 0 37 = nI L → ∃ τ', fX6_reads_16 0 n τ (nI (b2n b)) (nI v) = some (nI (b2n (b && isW r v)), τ') ∧ sameX (fun _ k => k = 35 ∨ k = 37) τ τ' ∧ ((b && isW r v) = true → ∃ (k : Nat) (w : Nat → Nat), L + k ≤ 5 ∧ v = enc w k ∧ (∀ i, i < k → w i ≤ 9) ∧ mI τ' 0 37 = nI (L + k) ∧ (∀ i, i < k → mA τ' 0 35 i = nI (w i)) ∧ ∀ i, i < L → mA τ' 0 35 (k + i) = mA τ 0 35 i) := by
  intro r
  induction r with
  | zero =>
    intro v L n τ b hL hn hv h37
    obtain ⟨n, rfl⟩ : ∃ m, n = m + 1 := ⟨n - 1, by omega⟩
    refine ⟨τ, ?_, sameX.rf, fun hb => ⟨0, fun _ => 0, by omega, ?_, fun i hi => absurd hi (Nat.not_lt_zero i), h37, fun i hi => absurd hi (Nat.not_lt_zero i), fun i hi => by rw [Nat.zero_add]⟩⟩
    · rw [fX6_reads_16.eq_2, h37, show (5 : Int32) = nI 5 from rfl, iteLE (by omega) (by omega), if_pos (show 5 ≤ L by omega), ite_self, ite_self, M_110 hv]
      rfl
    · have : (b && decide (v = 1)) = true := hb
      have := (Bool.and_eq_true _ _).mp this
      exact of_decide_eq_true this.2
  | succ r ih =>
    intro v L n τ b hL hn hv h37
    obtain ⟨n, rfl⟩ : ∃ m, n = m + 1 := ⟨n - 1, by omega⟩
    have hw : isW (r + 1) v = if v < 11 then decide (v = 1) else decide (v % 11 ≤ 9) && isW r (v / 11) := rfl
    cases b with
    | false => exact ⟨τ, by rw [fX6_reads_16.eq_2, if_pos (show nI (b2n false) = 0 from rfl), M_110 hv]; rfl, sameX.rf, fun hb => by rw [Bool.false_and] at hb; exact absurd hb (by decide)⟩
    | true =>
      rw [fX6_reads_16.eq_2, if_neg (show ¬ nI (b2n true) = 0 by decide), show (11 : Int32) = nI 11 from rfl, iteL (by omega) (by omega), Bool.true_and, hw]
      by_cases e : v < 11
      · rw [if_pos e, if_pos e, M_110 hv, Bool.true_and]
        refine ⟨τ, rfl, sameX.rf, fun hb => ⟨0, fun _ => 0, by omega, ?_, fun i hi => absurd hi (Nat.not_lt_zero i), h37, fun i hi => absurd hi (Nat.not_lt_zero i), fun i hi => by rw [Nat.zero_add]⟩⟩
        exact of_decide_eq_true hb
      · have hm := Nat.mod_lt v (show 0 < 11 by decide)
        have e55 : ∀ b' : Bool, ∃ τ', fX6_reads_55 (fX6_reads_16 0 n) 0 FU τ (nI (b2n b')) (nI v) (mI τ 0 37) = some (nI (b2n (b' && isW r (v / 11))), τ') ∧ sameX (fun _ k => k = 35 ∨ k = 37) τ τ' ∧ ((b' && isW r (v / 11)) = true → ∃ (k : Nat) (w : Nat → Nat), L + 1 + k ≤ 5 ∧ v / 11 = enc w k ∧ (∀ i, i < k → w i ≤ 9) ∧ mI τ' 0 37 = nI (L + 1 + k) ∧ (∀ i, i < k → mA τ' 0 35 i = nI (w i)) ∧ mA τ' 0 35 k = nI (v % 11) ∧ ∀ i, i < L → mA τ' 0 35 (k + 1 + i) = mA τ 0 35 i) := fun b' => by
          obtain ⟨τ1, e1, a1, a2, a3, s1⟩ := M_r55 (fX6_reads_16 0 n) (nI (b2n b')) hv (show L ≤ 4 by omega) L FU τ (Nat.le_refl L) (by show _ < 1000; omega) h37
          obtain ⟨τ2, e2, s2, w2⟩ := ih (v / 11) (L + 1) n τ1 b' (by omega) (by omega) (by omega) a1
          refine ⟨τ2, by rw [h37, e1, e2], s1.tr s2, fun hb => ?_⟩
          obtain ⟨k, w, w1, w3, w4, w5, w6, w7⟩ := w2 hb
          refine ⟨k, w, w1, w3, w4, w5, w6, ?_, fun i hi => ?_⟩
          · have := w7 0 (by omega)
            rw [Nat.add_zero] at this
            rw [this, a2]
          · have := w7 (i + 1) (by omega)
            rw [show k + 1 + i = k + (i + 1) by omega, this, a3 (i + 1) (by omega), if_pos (by omega)]
            rfl
        rw [if_neg e, if_neg e, h37, show (5 : Int32) = nI 5 from rfl, iteLE (by omega) (by omega), if_neg (show ¬ 5 ≤ L by omega), remN hv (by decide) (by decide), show (10 : Int32) = nI 10 from rfl, iteLE (by omega) (by omega)]
        rw [h37] at e55
        by_cases e9 : v % 11 ≤ 9
        · obtain ⟨τ', t1, t2, t3⟩ := e55 true
          rw [Bool.true_and] at t1 t3
          rw [if_neg (by omega), decide_eq_true e9, Bool.true_and]
          refine ⟨τ', t1, t2, fun hb => ?_⟩
          obtain ⟨k, w, w1, w3, w4, w5, w6, w7, w8⟩ := t3 hb
          refine ⟨k + 1, fun i => if i = k then v % 11 else w i, by omega, ?_, fun i hi => ?_, by rw [w5]; exact congrArg nI (by omega), fun i hi => ?_, w8⟩
          · rw [enc_s, if_pos rfl, enc_c (w := fun i => if i = k then v % 11 else w i) (v := w) (fun i hi => if_neg (by omega)), ← w3]
            omega
          · show (if i = k then v % 11 else w i) ≤ 9
            split
            · exact e9
            · exact w4 i (by omega)
          · show _ = nI (if i = k then v % 11 else w i)
            by_cases ei : i = k
            · rw [if_pos ei, ei]; exact w7
            · rw [if_neg ei]; exact w6 i (by omega)
        · obtain ⟨τ', t1, t2, t3⟩ := e55 false
          rw [if_pos (by omega), decide_eq_false e9, Bool.false_and]
          exact ⟨τ', t1, t2, fun hb => absurd hb (by decide)⟩
theorem reads_ok {τ : Mem} {A : AS} (hM : MS τ A) (x : Int32) : (fX5_isWholeLetter x = some 0 ∧ ∃ τ', fX6_reads τ 0 x = some (0, τ') ∧ MS τ' A) ∨ ∃ (k : Nat) (w : Nat → Nat), 1 ≤ k ∧ k ≤ 5 ∧ (∀ i, i < k → w i ≤ 9) ∧ x = nI (enc w k) ∧ fX5_isWholeLetter x = some 1 ∧ ∃ τ', fX6_reads τ 0 x = some (1, τ') ∧ MS τ' A ∧ mI τ' 0 37 = nI k ∧ ∀ i, i < k → mA τ' 0 35 i = nI (w i) := by
  have h0 : mI (sI τ 0 37 0) 0 37 = nI 0 := by simp only [mI_sI, mI_sL, mI_sP, mI_sA, mI_sB, mL_sI, mL_sL, mL_sP, mL_sA, mL_sB, mP_sI, mP_sL, mP_sP, mP_sA, mP_sB, mA_sI, mA_sL, mA_sP, mA_sAg, mA_sB, mB_sI, mB_sL, mB_sP, mB_sA, mB_sBg, mE_sI, mE_sL, mE_sP, mE_sA, mE_sB, Nat.reduceEqDiff, Nat.reduceAdd, Nat.reduceMul, Nat.reduceSub, Nat.reduceLT, Nat.reduceLeDiff, Nat.reduceDiv, Nat.reduceMod, Nat.reduceBEq, and_true, true_and, and_false, false_and, and_self, ite_true, ite_false, if_true, if_false, reduceIte, eq_self, not_true, not_false_eq_true, Bool.true_and, Bool.and_true, Bool.false_and, Bool.and_false, Bool.or_true, Bool.true_or, Bool.or_false, Bool.false_or, Bool.not_true, Bool.not_false, reduceCtorEq, upd_e, Nat.add_eq_zero_iff, Nat.add_right_cancel_iff, Nat.add_left_cancel_iff]; rfl
  have hs0 : sameX (fun _ k => 19 ≤ k) τ (sI τ 0 37 0) := by repeat (first | exact sameX.rf | refine sameX.sI ?_ (by first | rfl | exact Or.inl rfl | exact Or.inr rfl | trivial | decide | omega | simp) _ | refine sameX.sA ?_ (by first | rfl | exact Or.inl rfl | exact Or.inr rfl | trivial | decide | omega | simp) _ _ | refine sameX.sL ?_ (by first | rfl | exact Or.inl rfl | exact Or.inr rfl | trivial | decide | omega | simp) _ | refine sameX.sP ?_ (by first | rfl | exact Or.inl rfl | exact Or.inr rfl | trivial | decide | omega | simp) _ | refine sameX.sB ?_ (by first | rfl | exact Or.inl rfl | exact Or.inr rfl | trivial | decide | omega | simp) _ _)
  have hMM : ∀ τ', sameX (fun _ k => k = 35 ∨ k = 37) (sI τ 0 37 0) τ' → MS τ' A := fun τ' hs => hM.scratch (hs0.tr (hs.mono (fun o k h => by omega)))
  rcases pk_rng x (a := 11) (b := 1771560) (by decide) (by decide) with hx | ⟨v, h1, h2, rfl⟩
  · refine Or.inl ⟨C_whole_no ?_, sI τ 0 37 0, ?_, hMM _ sameX.rf⟩
    · rcases hx with hx | hx
      · exact Or.inl hx
      · right
        rw [Int32.lt_iff_toInt_lt, nI_toInt (by decide)] at hx
        rw [Int32.lt_iff_toInt_lt, nI_toInt (by decide)]
        omega
    · unfold fX6_reads
      have ein : fX6_in x 11 1771560 = some 0 := inr_no hx
      obtain ⟨m, hm⟩ : ∃ m, FU = m + 1 := ⟨999, rfl⟩
      rw [stp_s, ein, bd_s, hm, fX6_reads_16.eq_2, if_pos rfl]
      rfl
  · obtain ⟨τ', t1, t2, t3⟩ := M_r16 5 v 0 FU (sI τ 0 37 0) true (by omega) (by decide) (by omega) h0
    have ein : fX6_in (nI v) 11 1771560 = some 1 := inr_yes h1 h2 (by decide)
    have er : fX6_reads τ 0 (nI v) = some (nI (b2n (true && isW 5 v)), τ') := by
      unfold fX6_reads
      rw [stp_s, ein, bd_s]
      exact t1
    rw [Bool.true_and] at er t3
    cases e : isW 5 v with
    | false =>
      rw [e] at er
      refine Or.inl ⟨?_, τ', er, hMM _ t2⟩
      by_cases e2 : v ≤ 322101
      · rw [C_whole h1 e2, e]; rfl
      · refine C_whole_no (Or.inr ?_)
        rw [ltN (by omega) (by omega)]; omega
    | true =>
      rw [e] at er
      obtain ⟨k, w, w1, w3, w4, w5, w6, w7⟩ := t3 e
      have hlt := enc_lt (n := k) (by omega) (fun i hi => Nat.le_trans (w4 i hi) (by decide))
      refine Or.inr ⟨k, w, ?_, by omega, w4, by rw [w3], ?_, τ', er, hMM _ t2, by rw [w5, Nat.zero_add], w6⟩
      · cases k with
        | zero => have : v = 1 := w3; omega
        | succ k => omega
      · rw [C_whole h1 (by omega), e]; rfl
