/-! letters as numbers to the base 11 -/
def p11 : Nat → Nat
  | 0 => 1
  | n + 1 => p11 n * 11
theorem enc_b {w : Nat → Nat} : ∀ {n : Nat}, (∀ i, i < n → w i ≤ 10) → p11 n ≤ enc w n ∧ enc w n < 2 * p11 n
  | 0, _ => ⟨Nat.le_refl 1, show 1 < 2 * 1 by decide⟩
  | n + 1, h => by
    have := enc_b (n := n) (fun i hi => h i (by omega))
    have := h n (by omega)
    simp only [p11, enc]
    omega
theorem p11_le {n : Nat} (h : n ≤ 5) : p11 n ≤ 161051 := by
  have e : n = 0 ∨ n = 1 ∨ n = 2 ∨ n = 3 ∨ n = 4 ∨ n = 5 := by omega
  rcases e with rfl | rfl | rfl | rfl | rfl | rfl <;> decide
theorem p11_pos (n : Nat) : 1 ≤ p11 n := by
  induction n with
  | zero => exact Nat.le_refl 1
  | succ n ih => simp only [p11]; omega
theorem enc_lt {w : Nat → Nat} {n : Nat} (h5 : n ≤ 5) (h : ∀ i, i < n → w i ≤ 10) : enc w n < 322102 := by
  have := (enc_b h).2; have := p11_le h5; omega
theorem enc_s (w : Nat → Nat) (n : Nat) : enc w (n + 1) = enc w n * 11 + w n := rfl
theorem enc_div {w : Nat → Nat} {n : Nat} (h : w n ≤ 10) : enc w (n + 1) / 11 = enc w n := by rw [enc_s]; omega
theorem enc_mod {w : Nat → Nat} {n : Nat} (h : w n ≤ 10) : enc w (n + 1) % 11 = w n := by rw [enc_s]; omega
theorem encR {w : Nat → Nat} {n : Nat} (h5 : n + 1 ≤ 5) (h : ∀ i, i < n + 1 → w i ≤ 10) : nI (enc w (n + 1)) - nI (enc w n * 11) = nI (w n) := by
  have h2 := enc_lt h5 h
  have e := remN (a := enc w (n + 1)) (d := 11) (by omega) (by omega) (by omega)
  rw [pk_div (by omega) (by omega) (by omega), pk_mul, enc_div (h n (by omega)), enc_mod (h n (by omega))] at e
  exact e
theorem enc_c {w v : Nat → Nat} : ∀ {n : Nat}, (∀ i, i < n → w i = v i) → enc w n = enc v n
  | 0, _ => rfl
  | n + 1, h => by rw [enc_s, enc_s, enc_c (fun i hi => h i (by omega)), h n (by omega)]
theorem enc_inj {w v : Nat → Nat} : ∀ {n : Nat}, (∀ i, i < n → w i ≤ 10) → (∀ i, i < n → v i ≤ 10) → enc w n = enc v n → ∀ i, i < n → w i = v i
  | 0, _, _, _ => fun i hi => absurd hi (Nat.not_lt_zero i)
  | n + 1, hw, hv, e => fun i hi => by
    have h1 := hw n (by omega); have h2 := hv n (by omega)
    rw [enc_s, enc_s] at e
    by_cases ei : i = n
    · subst ei; omega
    · have e2 : enc w n = enc v n := by omega
      exact enc_inj (fun i hi => hw i (by omega)) (fun i hi => hv i (by omega)) e2 i (by omega)
theorem p11_mono {a b : Nat} (h : a < b) : p11 a * 11 ≤ p11 b := by
  induction b with
  | zero => omega
  | succ b ih =>
    simp only [p11]
    rcases Nat.lt_or_ge a b with q | q
    · have := ih q; have := p11_pos b; omega
    · have : a = b := by omega
      subst this; exact Nat.le_refl _
theorem enc_len {w v : Nat → Nat} {n m : Nat} (hw : ∀ i, i < n → w i ≤ 10) (hv : ∀ i, i < m → v i ≤ 10) (e : enc w n = enc v m) : n = m := by
  have h1 := enc_b hw; have h2 := enc_b hv
  rcases Nat.lt_trichotomy n m with q | q | q
  · have := p11_mono q; omega
  · exact q
  · have := p11_mono q; omega
theorem len_l {w : Nat → Nat} : ∀ (k c n : Nat), (∀ i, i < k → w i ≤ 10) → c + k ≤ 5 → k < n → fX5_lengthOf_4 n (nI c) (nI (enc w k)) = some (nI (c + k)) := by
  intro k
  induction k with
  | zero =>
    intro c n hw hc hn
    obtain ⟨n, rfl⟩ : ∃ m, n = m + 1 := ⟨n - 1, by omega⟩
    simp (disch := omega) only [fX5_lengthOf_4, stp_s, bd_s, bd2_s, gd_t, gd_in, clampN, fa_lit, ofN, nI_add, pk_mul, leN, ltN, eqN, eqNg, gNeq, gNlt, gNle, ltNg, leNg, gg, mI_sI, mI_sL, mI_sP, mI_sA, mI_sB, mL_sI, mL_sL, mL_sP, mL_sA, mL_sB, mP_sI, mP_sL, mP_sP, mP_sA, mP_sB, mA_sI, mA_sL, mA_sP, mA_sAg, mA_sB, mB_sI, mB_sL, mB_sP, mB_sA, mB_sBg, mE_sI, mE_sL, mE_sP, mE_sA, mE_sB, Nat.reduceEqDiff, Nat.reduceAdd, Nat.reduceMul, Nat.reduceSub, Nat.reduceLT, Nat.reduceLeDiff, Nat.reduceDiv, Nat.reduceMod, Nat.reduceBEq, and_true, true_and, and_false, false_and, and_self, ite_true, ite_false, if_true, if_false, reduceIte, eq_self, not_true, not_false_eq_true, Bool.true_and, Bool.and_true, Bool.false_and, Bool.and_false, Bool.or_true, Bool.true_or, Bool.or_false, Bool.false_or, Bool.not_true, Bool.not_false, reduceCtorEq, upd_e, Nat.add_eq_zero_iff, Nat.add_right_cancel_iff, Nat.add_left_cancel_iff, decide_true, decide_false, Bool.false_eq_true, decide_eq_true_eq, enc, Nat.add_zero]
  | succ k ih =>
    intro c n hw hc hn
    obtain ⟨n, rfl⟩ : ∃ m, n = m + 1 := ⟨n - 1, by omega⟩
    have h1 := enc_b hw
    have h2 := enc_lt (by omega) hw
    have h3 : 11 ≤ enc w (k + 1) := by have := p11_pos k; simp only [p11] at h1; omega
    simp (disch := omega) only [fX5_lengthOf_4, stp_s, bd_s, bd2_s, gd_t, gd_in, clampN, fa_lit, ofN, nI_add, pk_mul, leN, ltN, eqN, eqNg, gNeq, gNlt, gNle, ltNg, leNg, gg, mI_sI, mI_sL, mI_sP, mI_sA, mI_sB, mL_sI, mL_sL, mL_sP, mL_sA, mL_sB, mP_sI, mP_sL, mP_sP, mP_sA, mP_sB, mA_sI, mA_sL, mA_sP, mA_sAg, mA_sB, mB_sI, mB_sL, mB_sP, mB_sA, mB_sBg, mE_sI, mE_sL, mE_sP, mE_sA, mE_sB, Nat.reduceEqDiff, Nat.reduceAdd, Nat.reduceMul, Nat.reduceSub, Nat.reduceLT, Nat.reduceLeDiff, Nat.reduceDiv, Nat.reduceMod, Nat.reduceBEq, and_true, true_and, and_false, false_and, and_self, ite_true, ite_false, if_true, if_false, reduceIte, eq_self, not_true, not_false_eq_true, Bool.true_and, Bool.and_true, Bool.false_and, Bool.and_false, Bool.or_true, Bool.true_or, Bool.or_false, Bool.false_or, Bool.not_true, Bool.not_false, reduceCtorEq, upd_e, Nat.add_eq_zero_iff, Nat.add_right_cancel_iff, Nat.add_left_cancel_iff, decide_true, decide_false, Bool.false_eq_true, decide_eq_true_eq, pk_div, show ¬ enc w (k + 1) < 11 by omega, show ¬ 5 ≤ c by omega]
    rw [enc_div (hw k (by omega)), ih (c + 1) n (fun i hi => hw i (by omega)) (by omega) (by omega)]
    exact congrArg some (congrArg nI (by omega))
theorem lenOf {w : Nat → Nat} {k : Nat} (hw : ∀ i, i < k → w i ≤ 10) (hk : k ≤ 5) : fX5_lengthOf (nI (enc w k)) = some (nI k) := by
  have e := len_l k 0 FU hw (by omega) (by show _ < 1000; omega)
  rw [Nat.zero_add] at e
  exact e
theorem wordAt_l {w : Nat → Nat} {i : Nat} : ∀ (d j n : Nat), (∀ i, i < j + 1 → w i ≤ 10) → j ≤ 4 → i + d = j → d < n → fX5_wordAt_9 n (nI i) (nI (enc w (j + 1))) (nI j) = some (nI (w i)) := by
  intro d
  induction d with
  | zero =>
    intro j n hw hj hd hn
    obtain ⟨n, rfl⟩ : ∃ m, n = m + 1 := ⟨n - 1, by omega⟩
    have h2 := enc_lt (by omega) hw
    simp (disch := omega) only [fX5_wordAt_9, stp_s, bd_s, bd2_s, gd_t, gd_in, clampN, fa_lit, ofN, nI_add, pk_mul, leN, ltN, eqN, eqNg, gNeq, gNlt, gNle, ltNg, leNg, gg, mI_sI, mI_sL, mI_sP, mI_sA, mI_sB, mL_sI, mL_sL, mL_sP, mL_sA, mL_sB, mP_sI, mP_sL, mP_sP, mP_sA, mP_sB, mA_sI, mA_sL, mA_sP, mA_sAg, mA_sB, mB_sI, mB_sL, mB_sP, mB_sA, mB_sBg, mE_sI, mE_sL, mE_sP, mE_sA, mE_sB, Nat.reduceEqDiff, Nat.reduceAdd, Nat.reduceMul, Nat.reduceSub, Nat.reduceLT, Nat.reduceLeDiff, Nat.reduceDiv, Nat.reduceMod, Nat.reduceBEq, and_true, true_and, and_false, false_and, and_self, ite_true, ite_false, if_true, if_false, reduceIte, eq_self, not_true, not_false_eq_true, Bool.true_and, Bool.and_true, Bool.false_and, Bool.and_false, Bool.or_true, Bool.true_or, Bool.or_false, Bool.false_or, Bool.not_true, Bool.not_false, reduceCtorEq, upd_e, Nat.add_eq_zero_iff, Nat.add_right_cancel_iff, Nat.add_left_cancel_iff, decide_true, decide_false, Bool.false_eq_true, decide_eq_true_eq, remN, show j ≤ i by omega]
    rw [enc_mod (hw j (by omega)), show j = i by omega]
  | succ d ih =>
    intro j n hw hj hd hn
    obtain ⟨n, rfl⟩ : ∃ m, n = m + 1 := ⟨n - 1, by omega⟩
    obtain ⟨j, rfl⟩ : ∃ m, j = m + 1 := ⟨j - 1, by omega⟩
    have h2 := enc_lt (by omega) hw
    have hm : nI (j + 1) + -nI 1 = nI j := pk_m1 j
    simp (disch := omega) only [fX5_wordAt_9, stp_s, bd_s, bd2_s, gd_t, gd_in, clampN, fa_lit, ofN, nI_add, pk_mul, leN, ltN, eqN, eqNg, gNeq, gNlt, gNle, ltNg, leNg, gg, mI_sI, mI_sL, mI_sP, mI_sA, mI_sB, mL_sI, mL_sL, mL_sP, mL_sA, mL_sB, mP_sI, mP_sL, mP_sP, mP_sA, mP_sB, mA_sI, mA_sL, mA_sP, mA_sAg, mA_sB, mB_sI, mB_sL, mB_sP, mB_sA, mB_sBg, mE_sI, mE_sL, mE_sP, mE_sA, mE_sB, Nat.reduceEqDiff, Nat.reduceAdd, Nat.reduceMul, Nat.reduceSub, Nat.reduceLT, Nat.reduceLeDiff, Nat.reduceDiv, Nat.reduceMod, Nat.reduceBEq, and_true, true_and, and_false, false_and, and_self, ite_true, ite_false, if_true, if_false, reduceIte, eq_self, not_true, not_false_eq_true, Bool.true_and, Bool.and_true, Bool.false_and, Bool.and_false, Bool.or_true, Bool.true_or, Bool.or_false, Bool.false_or, Bool.not_true, Bool.not_false, reduceCtorEq, upd_e, Nat.add_eq_zero_iff, Nat.add_right_cancel_iff, Nat.add_left_cancel_iff, decide_true, decide_false, Bool.false_eq_true, decide_eq_true_eq, pk_div, show ¬ j + 1 ≤ i by omega, hm]
    rw [enc_div (hw (j + 1) (by omega)), ih j n (fun i hi => hw i (by omega)) (by omega) (by omega) (by omega)]
theorem wordAt_ok {w : Nat → Nat} {k i : Nat} (hw : ∀ i, i < k → w i ≤ 10) (hk : k ≤ 5) (hi : i < k) : fX5_wordAt (nI (enc w k)) (nI i) = some (nI (w i)) := by
  obtain ⟨k, rfl⟩ : ∃ m, k = m + 1 := ⟨k - 1, by omega⟩
  unfold fX5_wordAt
  rw [lenOf hw hk, bd_s, nI_pred]
  exact wordAt_l (k - i) k FU hw (by omega) (by omega) (by show _ < 1000; omega)
def lostc (w : Nat → Nat) : Nat → Nat
  | 0 => 0
  | k + 1 => lostc w k + b2n (decide (w k = 10))
theorem lost_l {w : Nat → Nat} : ∀ (k c n : Nat), (∀ i, i < k → w i ≤ 10) → k ≤ 5 → c + k ≤ 5 → k < n → fX5_lostIn_4 n (nI c) (nI (enc w k)) = some (nI (c + lostc w k)) := by
  intro k
  induction k with
  | zero =>
    intro c n hw hk hc hn
    obtain ⟨n, rfl⟩ : ∃ m, n = m + 1 := ⟨n - 1, by omega⟩
    simp (disch := omega) only [fX5_lostIn_4, stp_s, bd_s, bd2_s, gd_t, gd_in, clampN, fa_lit, ofN, nI_add, pk_mul, leN, ltN, eqN, eqNg, gNeq, gNlt, gNle, ltNg, leNg, gg, mI_sI, mI_sL, mI_sP, mI_sA, mI_sB, mL_sI, mL_sL, mL_sP, mL_sA, mL_sB, mP_sI, mP_sL, mP_sP, mP_sA, mP_sB, mA_sI, mA_sL, mA_sP, mA_sAg, mA_sB, mB_sI, mB_sL, mB_sP, mB_sA, mB_sBg, mE_sI, mE_sL, mE_sP, mE_sA, mE_sB, Nat.reduceEqDiff, Nat.reduceAdd, Nat.reduceMul, Nat.reduceSub, Nat.reduceLT, Nat.reduceLeDiff, Nat.reduceDiv, Nat.reduceMod, Nat.reduceBEq, and_true, true_and, and_false, false_and, and_self, ite_true, ite_false, if_true, if_false, reduceIte, eq_self, not_true, not_false_eq_true, Bool.true_and, Bool.and_true, Bool.false_and, Bool.and_false, Bool.or_true, Bool.true_or, Bool.or_false, Bool.false_or, Bool.not_true, Bool.not_false, reduceCtorEq, upd_e, Nat.add_eq_zero_iff, Nat.add_right_cancel_iff, Nat.add_left_cancel_iff, decide_true, decide_false, Bool.false_eq_true, decide_eq_true_eq, enc, lostc, Nat.add_zero]
  | succ k ih =>
    intro c n hw hk hc hn
    obtain ⟨n, rfl⟩ : ∃ m, n = m + 1 := ⟨n - 1, by omega⟩
    have h1 := enc_b hw
    have h2 := enc_lt (by omega) hw
    have hwk := hw k (by omega)
    have h3 : 11 ≤ enc w (k + 1) := by have := p11_pos k; simp only [p11] at h1; omega
    by_cases e : w k = 10
    · simp (disch := omega) only [fX5_lostIn_4, stp_s, bd_s, bd2_s, gd_t, gd_in, clampN, fa_lit, ofN, nI_add, pk_mul, leN, ltN, eqN, eqNg, gNeq, gNlt, gNle, ltNg, leNg, gg, mI_sI, mI_sL, mI_sP, mI_sA, mI_sB, mL_sI, mL_sL, mL_sP, mL_sA, mL_sB, mP_sI, mP_sL, mP_sP, mP_sA, mP_sB, mA_sI, mA_sL, mA_sP, mA_sAg, mA_sB, mB_sI, mB_sL, mB_sP, mB_sA, mB_sBg, mE_sI, mE_sL, mE_sP, mE_sA, mE_sB, Nat.reduceEqDiff, Nat.reduceAdd, Nat.reduceMul, Nat.reduceSub, Nat.reduceLT, Nat.reduceLeDiff, Nat.reduceDiv, Nat.reduceMod, Nat.reduceBEq, and_true, true_and, and_false, false_and, and_self, ite_true, ite_false, if_true, if_false, reduceIte, eq_self, not_true, not_false_eq_true, Bool.true_and, Bool.and_true, Bool.false_and, Bool.and_false, Bool.or_true, Bool.true_or, Bool.or_false, Bool.false_or, Bool.not_true, Bool.not_false, reduceCtorEq, upd_e, Nat.add_eq_zero_iff, Nat.add_right_cancel_iff, Nat.add_left_cancel_iff, decide_true, decide_false, Bool.false_eq_true, decide_eq_true_eq, pk_div, encR hk hw, enc_div, show ¬ enc w (k + 1) < 11 by omega, e]
      rw [ih (c + 1) n (fun i hi => hw i (by omega)) (by omega) (by omega) (by omega)]
      refine congrArg some (congrArg nI ?_)
      show _ = c + (lostc w k + b2n (decide (w k = 10)))
      rw [decide_eq_true e]
      show _ = c + (lostc w k + 1)
      omega
    · simp (disch := omega) only [fX5_lostIn_4, stp_s, bd_s, bd2_s, gd_t, gd_in, clampN, fa_lit, ofN, nI_add, pk_mul, leN, ltN, eqN, eqNg, gNeq, gNlt, gNle, ltNg, leNg, gg, mI_sI, mI_sL, mI_sP, mI_sA, mI_sB, mL_sI, mL_sL, mL_sP, mL_sA, mL_sB, mP_sI, mP_sL, mP_sP, mP_sA, mP_sB, mA_sI, mA_sL, mA_sP, mA_sAg, mA_sB, mB_sI, mB_sL, mB_sP, mB_sA, mB_sBg, mE_sI, mE_sL, mE_sP, mE_sA, mE_sB, Nat.reduceEqDiff, Nat.reduceAdd, Nat.reduceMul, Nat.reduceSub, Nat.reduceLT, Nat.reduceLeDiff, Nat.reduceDiv, Nat.reduceMod, Nat.reduceBEq, and_true, true_and, and_false, false_and, and_self, ite_true, ite_false, if_true, if_false, reduceIte, eq_self, not_true, not_false_eq_true, Bool.true_and, Bool.and_true, Bool.false_and, Bool.and_false, Bool.or_true, Bool.true_or, Bool.or_false, Bool.false_or, Bool.not_true, Bool.not_false, reduceCtorEq, upd_e, Nat.add_eq_zero_iff, Nat.add_right_cancel_iff, Nat.add_left_cancel_iff, decide_true, decide_false, Bool.false_eq_true, decide_eq_true_eq, pk_div, encR hk hw, enc_div, show ¬ enc w (k + 1) < 11 by omega, e]
      rw [ih c n (fun i hi => hw i (by omega)) (by omega) (by omega) (by omega)]
      refine congrArg some (congrArg nI ?_)
      show _ = c + (lostc w k + b2n (decide (w k = 10)))
      rw [decide_eq_false e]
      rfl
theorem lostOf {w : Nat → Nat} {k : Nat} (hw : ∀ i, i < k → w i ≤ 10) (hk : k ≤ 5) : fX5_lostIn (nI (enc w k)) = some (nI (lostc w k)) := by
  have e := lost_l k 0 FU hw hk (by omega) (by show _ < 1000; omega)
  rw [Nat.zero_add] at e
  exact e
/-! clerks -/
def tb (u w : Nat) : Bool := decide (u / 2 ^ w % 2 = 1)
theorem bit10_k : ∀ (u : Fin 1024) (w : Fin 10), (nI u.val >>> (nI w.val &&& nI 31)) &&& nI 1 = if tb u.val w.val = true then nI 1 else nI 0 := by decide +kernel
theorem bit10 {u w : Nat} (hu : u ≤ 1023) (hw : w < 10) : (nI u >>> (nI w &&& nI 31)) &&& nI 1 = if tb u w = true then nI 1 else nI 0 := bit10_k ⟨u, by omega⟩ ⟨w, hw⟩
def cpw (I : IV) (k w : Nat) : Nat := if 10 ≤ w then 10 else if tb (iU I k) w = true then 10 else if w = iM I k then iN I k else w
theorem cpw_le {I : IV} (ok : IOK I) {k w : Nat} (hk : k < iK I) (hw : w ≤ 10) : cpw I k w ≤ 10 := by
  have := (ok.2.2.2.2.2.2 k hk).2.2
  unfold cpw
  split
  · omega
  · split
    · omega
    · split <;> omega
theorem C_copied {σ : Mem} {q : Nat} {I : IV} (h : IC σ q I) (ok : IOK I) {k w : Nat} (hk : k < iK I) (hw : w ≤ 10) : fX1_copied σ q (nI w) (nI k) = some (nI (cpw I k w)) := by
  have hK := ok.2.2.2.2.1
  obtain ⟨hu, hm, hn⟩ := ok.2.2.2.2.2.2 k hk
  have a8 := h.2.2.2.2.2.2.2.1 k hk
  have a9 := h.2.2.2.2.2.2.2.2.1 k hk
  have a10 := h.2.2.2.2.2.2.2.2.2.1 k hk
  unfold cpw
  by_cases e : 10 ≤ w
  · simp (disch := omega) only [fX1_copied, stp_s, bd_s, bd2_s, gd_t, gd_in, clampN, fa_lit, ofN, nI_add, pk_mul, leN, ltN, eqN, eqNg, gNeq, gNlt, gNle, ltNg, leNg, gg, mI_sI, mI_sL, mI_sP, mI_sA, mI_sB, mL_sI, mL_sL, mL_sP, mL_sA, mL_sB, mP_sI, mP_sL, mP_sP, mP_sA, mP_sB, mA_sI, mA_sL, mA_sP, mA_sAg, mA_sB, mB_sI, mB_sL, mB_sP, mB_sA, mB_sBg, mE_sI, mE_sL, mE_sP, mE_sA, mE_sB, Nat.reduceEqDiff, Nat.reduceAdd, Nat.reduceMul, Nat.reduceSub, Nat.reduceLT, Nat.reduceLeDiff, Nat.reduceDiv, Nat.reduceMod, Nat.reduceBEq, and_true, true_and, and_false, false_and, and_self, ite_true, ite_false, if_true, if_false, reduceIte, eq_self, not_true, not_false_eq_true, Bool.true_and, Bool.and_true, Bool.false_and, Bool.and_false, Bool.or_true, Bool.true_or, Bool.or_false, Bool.false_or, Bool.not_true, Bool.not_false, reduceCtorEq, upd_e, Nat.add_eq_zero_iff, Nat.add_right_cancel_iff, Nat.add_left_cancel_iff, decide_true, decide_false, Bool.false_eq_true, decide_eq_true_eq, e]
  · by_cases eb : tb (iU I k) w = true
    · simp (disch := omega) only [fX1_copied, stp_s, bd_s, bd2_s, gd_t, gd_in, clampN, fa_lit, ofN, nI_add, pk_mul, leN, ltN, eqN, eqNg, gNeq, gNlt, gNle, ltNg, leNg, gg, mI_sI, mI_sL, mI_sP, mI_sA, mI_sB, mL_sI, mL_sL, mL_sP, mL_sA, mL_sB, mP_sI, mP_sL, mP_sP, mP_sA, mP_sB, mA_sI, mA_sL, mA_sP, mA_sAg, mA_sB, mB_sI, mB_sL, mB_sP, mB_sA, mB_sBg, mE_sI, mE_sL, mE_sP, mE_sA, mE_sB, Nat.reduceEqDiff, Nat.reduceAdd, Nat.reduceMul, Nat.reduceSub, Nat.reduceLT, Nat.reduceLeDiff, Nat.reduceDiv, Nat.reduceMod, Nat.reduceBEq, and_true, true_and, and_false, false_and, and_self, ite_true, ite_false, if_true, if_false, reduceIte, eq_self, not_true, not_false_eq_true, Bool.true_and, Bool.and_true, Bool.false_and, Bool.and_false, Bool.or_true, Bool.true_or, Bool.or_false, Bool.false_or, Bool.not_true, Bool.not_false, reduceCtorEq, upd_e, Nat.add_eq_zero_iff, Nat.add_right_cancel_iff, Nat.add_left_cancel_iff, decide_true, decide_false, Bool.false_eq_true, decide_eq_true_eq, e, a8, bit10 hu (show w < 10 by omega), eb]
    · by_cases em : w = iM I k
      · rw [← em] at a9
        rw [if_neg e, if_neg eb, if_pos em]
        simp (disch := omega) only [fX1_copied, stp_s, bd_s, bd2_s, gd_t, gd_in, clampN, fa_lit, ofN, nI_add, pk_mul, leN, ltN, eqN, eqNg, gNeq, gNlt, gNle, ltNg, leNg, gg, mI_sI, mI_sL, mI_sP, mI_sA, mI_sB, mL_sI, mL_sL, mL_sP, mL_sA, mL_sB, mP_sI, mP_sL, mP_sP, mP_sA, mP_sB, mA_sI, mA_sL, mA_sP, mA_sAg, mA_sB, mB_sI, mB_sL, mB_sP, mB_sA, mB_sBg, mE_sI, mE_sL, mE_sP, mE_sA, mE_sB, Nat.reduceEqDiff, Nat.reduceAdd, Nat.reduceMul, Nat.reduceSub, Nat.reduceLT, Nat.reduceLeDiff, Nat.reduceDiv, Nat.reduceMod, Nat.reduceBEq, and_true, true_and, and_false, false_and, and_self, ite_true, ite_false, if_true, if_false, reduceIte, eq_self, not_true, not_false_eq_true, Bool.true_and, Bool.and_true, Bool.false_and, Bool.and_false, Bool.or_true, Bool.true_or, Bool.or_false, Bool.false_or, Bool.not_true, Bool.not_false, reduceCtorEq, upd_e, Nat.add_eq_zero_iff, Nat.add_right_cancel_iff, Nat.add_left_cancel_iff, decide_true, decide_false, Bool.false_eq_true, decide_eq_true_eq, e, a8, bit10 hu (show w < 10 by omega), eb, a9, a10]
      · simp (disch := omega) only [fX1_copied, stp_s, bd_s, bd2_s, gd_t, gd_in, clampN, fa_lit, ofN, nI_add, pk_mul, leN, ltN, eqN, eqNg, gNeq, gNlt, gNle, ltNg, leNg, gg, mI_sI, mI_sL, mI_sP, mI_sA, mI_sB, mL_sI, mL_sL, mL_sP, mL_sA, mL_sB, mP_sI, mP_sL, mP_sP, mP_sA, mP_sB, mA_sI, mA_sL, mA_sP, mA_sAg, mA_sB, mB_sI, mB_sL, mB_sP, mB_sA, mB_sBg, mE_sI, mE_sL, mE_sP, mE_sA, mE_sB, Nat.reduceEqDiff, Nat.reduceAdd, Nat.reduceMul, Nat.reduceSub, Nat.reduceLT, Nat.reduceLeDiff, Nat.reduceDiv, Nat.reduceMod, Nat.reduceBEq, and_true, true_and, and_false, false_and, and_self, ite_true, ite_false, if_true, if_false, reduceIte, eq_self, not_true, not_false_eq_true, Bool.true_and, Bool.and_true, Bool.false_and, Bool.and_false, Bool.or_true, Bool.true_or, Bool.or_false, Bool.false_or, Bool.not_true, Bool.not_false, reduceCtorEq, upd_e, Nat.add_eq_zero_iff, Nat.add_right_cancel_iff, Nat.add_left_cancel_iff, decide_true, decide_false, Bool.false_eq_true, decide_eq_true_eq, e, a8, bit10 hu (show w < 10 by omega), eb, a9, em]
theorem M_madeOf {τ : Mem} {I : IV} (h : IMo τ I) (ok : IOK I) {k w : Nat} (hk : k < iK I) (hw : w ≤ 10) : fX6_madeOf τ 0 (nI k) (nI w) = some (nI (cpw I k w)) := by
  have hK := ok.2.2.2.2.1
  obtain ⟨hu, hm, hn⟩ := ok.2.2.2.2.2.2 k hk
  have a8 := h.2.2.2.2.2.2.2.1 k hk
  have a9 := h.2.2.2.2.2.2.2.2.1 k hk
  have a10 := h.2.2.2.2.2.2.2.2.2 k hk
  unfold cpw
  by_cases e : 10 ≤ w
  · have : w = 10 := by omega
    subst this
    simp (disch := omega) only [fX6_madeOf, stp_s, bd_s, bd2_s, gd_t, gd_in, clampN, fa_lit, ofN, nI_add, pk_mul, leN, ltN, eqN, eqNg, gNeq, gNlt, gNle, ltNg, leNg, gg, mI_sI, mI_sL, mI_sP, mI_sA, mI_sB, mL_sI, mL_sL, mL_sP, mL_sA, mL_sB, mP_sI, mP_sL, mP_sP, mP_sA, mP_sB, mA_sI, mA_sL, mA_sP, mA_sAg, mA_sB, mB_sI, mB_sL, mB_sP, mB_sA, mB_sBg, mE_sI, mE_sL, mE_sP, mE_sA, mE_sB, Nat.reduceEqDiff, Nat.reduceAdd, Nat.reduceMul, Nat.reduceSub, Nat.reduceLT, Nat.reduceLeDiff, Nat.reduceDiv, Nat.reduceMod, Nat.reduceBEq, and_true, true_and, and_false, false_and, and_self, ite_true, ite_false, if_true, if_false, reduceIte, eq_self, not_true, not_false_eq_true, Bool.true_and, Bool.and_true, Bool.false_and, Bool.and_false, Bool.or_true, Bool.true_or, Bool.or_false, Bool.false_or, Bool.not_true, Bool.not_false, reduceCtorEq, upd_e, Nat.add_eq_zero_iff, Nat.add_right_cancel_iff, Nat.add_left_cancel_iff, decide_true, decide_false, Bool.false_eq_true, decide_eq_true_eq]
  · have e10 : ¬ w = 10 := by omega
    by_cases eb : tb (iU I k) w = true
    · simp (disch := omega) only [fX6_madeOf, fX6_has, stp_s, bd_s, bd2_s, gd_t, gd_in, clampN, fa_lit, ofN, nI_add, pk_mul, leN, ltN, eqN, eqNg, gNeq, gNlt, gNle, ltNg, leNg, gg, mI_sI, mI_sL, mI_sP, mI_sA, mI_sB, mL_sI, mL_sL, mL_sP, mL_sA, mL_sB, mP_sI, mP_sL, mP_sP, mP_sA, mP_sB, mA_sI, mA_sL, mA_sP, mA_sAg, mA_sB, mB_sI, mB_sL, mB_sP, mB_sA, mB_sBg, mE_sI, mE_sL, mE_sP, mE_sA, mE_sB, Nat.reduceEqDiff, Nat.reduceAdd, Nat.reduceMul, Nat.reduceSub, Nat.reduceLT, Nat.reduceLeDiff, Nat.reduceDiv, Nat.reduceMod, Nat.reduceBEq, and_true, true_and, and_false, false_and, and_self, ite_true, ite_false, if_true, if_false, reduceIte, eq_self, not_true, not_false_eq_true, Bool.true_and, Bool.and_true, Bool.false_and, Bool.and_false, Bool.or_true, Bool.true_or, Bool.or_false, Bool.false_or, Bool.not_true, Bool.not_false, reduceCtorEq, upd_e, Nat.add_eq_zero_iff, Nat.add_right_cancel_iff, Nat.add_left_cancel_iff, decide_true, decide_false, Bool.false_eq_true, decide_eq_true_eq, e, e10, a8, bit10 hu (show w < 10 by omega), eb]
    · by_cases em : w = iM I k
      · rw [← em] at a9
        rw [if_neg e, if_neg eb, if_pos em]
        simp (disch := omega) only [fX6_madeOf, fX6_has, stp_s, bd_s, bd2_s, gd_t, gd_in, clampN, fa_lit, ofN, nI_add, pk_mul, leN, ltN, eqN, eqNg, gNeq, gNlt, gNle, ltNg, leNg, gg, mI_sI, mI_sL, mI_sP, mI_sA, mI_sB, mL_sI, mL_sL, mL_sP, mL_sA, mL_sB, mP_sI, mP_sL, mP_sP, mP_sA, mP_sB, mA_sI, mA_sL, mA_sP, mA_sAg, mA_sB, mB_sI, mB_sL, mB_sP, mB_sA, mB_sBg, mE_sI, mE_sL, mE_sP, mE_sA, mE_sB, Nat.reduceEqDiff, Nat.reduceAdd, Nat.reduceMul, Nat.reduceSub, Nat.reduceLT, Nat.reduceLeDiff, Nat.reduceDiv, Nat.reduceMod, Nat.reduceBEq, and_true, true_and, and_false, false_and, and_self, ite_true, ite_false, if_true, if_false, reduceIte, eq_self, not_true, not_false_eq_true, Bool.true_and, Bool.and_true, Bool.false_and, Bool.and_false, Bool.or_true, Bool.true_or, Bool.or_false, Bool.false_or, Bool.not_true, Bool.not_false, reduceCtorEq, upd_e, Nat.add_eq_zero_iff, Nat.add_right_cancel_iff, Nat.add_left_cancel_iff, decide_true, decide_false, Bool.false_eq_true, decide_eq_true_eq, e, e10, a8, bit10 hu (show w < 10 by omega), eb, a9, a10]
      · simp (disch := omega) only [fX6_madeOf, fX6_has, stp_s, bd_s, bd2_s, gd_t, gd_in, clampN, fa_lit, ofN, nI_add, pk_mul, leN, ltN, eqN, eqNg, gNeq, gNlt, gNle, ltNg, leNg, gg, mI_sI, mI_sL, mI_sP, mI_sA, mI_sB, mL_sI, mL_sL, mL_sP, mL_sA, mL_sB, mP_sI, mP_sL, mP_sP, mP_sA, mP_sB, mA_sI, mA_sL, mA_sP, mA_sAg, mA_sB, mB_sI, mB_sL, mB_sP, mB_sA, mB_sBg, mE_sI, mE_sL, mE_sP, mE_sA, mE_sB, Nat.reduceEqDiff, Nat.reduceAdd, Nat.reduceMul, Nat.reduceSub, Nat.reduceLT, Nat.reduceLeDiff, Nat.reduceDiv, Nat.reduceMod, Nat.reduceBEq, and_true, true_and, and_false, false_and, and_self, ite_true, ite_false, if_true, if_false, reduceIte, eq_self, not_true, not_false_eq_true, Bool.true_and, Bool.and_true, Bool.false_and, Bool.and_false, Bool.or_true, Bool.true_or, Bool.or_false, Bool.false_or, Bool.not_true, Bool.not_false, reduceCtorEq, upd_e, Nat.add_eq_zero_iff, Nat.add_right_cancel_iff, Nat.add_left_cancel_iff, decide_true, decide_false, Bool.false_eq_true, decide_eq_true_eq, e, e10, a8, bit10 hu (show w < 10 by omega), eb, a9, em]
theorem smoked_l {σ : Mem} {q : Nat} {I : IV} (h : IC σ q I) (ok : IOK I) {k : Nat} (hk : k < iK I) {w : Nat → Nat} : ∀ (m n a c : Nat), (∀ i, i < m → w i ≤ 10) → m ≤ 5 → m < n → fX1_smoked_8 σ q n (nI k) (nI a) (nI c) (nI (enc w m)) = some (nI (a + c * enc (fun i => cpw I k (w i)) m)) := by
  intro m
  induction m with
  | zero =>
    intro n a c hw hm hn
    obtain ⟨n, rfl⟩ : ∃ m, n = m + 1 := ⟨n - 1, by omega⟩
    simp (disch := omega) only [fX1_smoked_8, stp_s, bd_s, bd2_s, gd_t, gd_in, clampN, fa_lit, ofN, nI_add, pk_mul, leN, ltN, eqN, eqNg, gNeq, gNlt, gNle, ltNg, leNg, gg, mI_sI, mI_sL, mI_sP, mI_sA, mI_sB, mL_sI, mL_sL, mL_sP, mL_sA, mL_sB, mP_sI, mP_sL, mP_sP, mP_sA, mP_sB, mA_sI, mA_sL, mA_sP, mA_sAg, mA_sB, mB_sI, mB_sL, mB_sP, mB_sA, mB_sBg, mE_sI, mE_sL, mE_sP, mE_sA, mE_sB, Nat.reduceEqDiff, Nat.reduceAdd, Nat.reduceMul, Nat.reduceSub, Nat.reduceLT, Nat.reduceLeDiff, Nat.reduceDiv, Nat.reduceMod, Nat.reduceBEq, and_true, true_and, and_false, false_and, and_self, ite_true, ite_false, if_true, if_false, reduceIte, eq_self, not_true, not_false_eq_true, Bool.true_and, Bool.and_true, Bool.false_and, Bool.and_false, Bool.or_true, Bool.true_or, Bool.or_false, Bool.false_or, Bool.not_true, Bool.not_false, reduceCtorEq, upd_e, Nat.add_eq_zero_iff, Nat.add_right_cancel_iff, Nat.add_left_cancel_iff, decide_true, decide_false, Bool.false_eq_true, decide_eq_true_eq, enc, Nat.mul_one]
  | succ m ih =>
    intro n a c hw hm hn
    obtain ⟨n, rfl⟩ : ∃ m, n = m + 1 := ⟨n - 1, by omega⟩
    have h1 := enc_b hw
    have h2 := enc_lt (by omega) hw
    have hwk := hw m (by omega)
    have h3 : 11 ≤ enc w (m + 1) := by have := p11_pos m; simp only [p11] at h1; omega
    simp (disch := omega) only [fX1_smoked_8, stp_s, bd_s, bd2_s, gd_t, gd_in, clampN, fa_lit, ofN, nI_add, pk_mul, leN, ltN, eqN, eqNg, gNeq, gNlt, gNle, ltNg, leNg, gg, mI_sI, mI_sL, mI_sP, mI_sA, mI_sB, mL_sI, mL_sL, mL_sP, mL_sA, mL_sB, mP_sI, mP_sL, mP_sP, mP_sA, mP_sB, mA_sI, mA_sL, mA_sP, mA_sAg, mA_sB, mB_sI, mB_sL, mB_sP, mB_sA, mB_sBg, mE_sI, mE_sL, mE_sP, mE_sA, mE_sB, Nat.reduceEqDiff, Nat.reduceAdd, Nat.reduceMul, Nat.reduceSub, Nat.reduceLT, Nat.reduceLeDiff, Nat.reduceDiv, Nat.reduceMod, Nat.reduceBEq, and_true, true_and, and_false, false_and, and_self, ite_true, ite_false, if_true, if_false, reduceIte, eq_self, not_true, not_false_eq_true, Bool.true_and, Bool.and_true, Bool.false_and, Bool.and_false, Bool.or_true, Bool.true_or, Bool.or_false, Bool.false_or, Bool.not_true, Bool.not_false, reduceCtorEq, upd_e, Nat.add_eq_zero_iff, Nat.add_right_cancel_iff, Nat.add_left_cancel_iff, decide_true, decide_false, Bool.false_eq_true, decide_eq_true_eq, pk_div, encR hm hw, enc_div, show ¬ enc w (m + 1) < 11 by omega, C_copied h ok hk]
    rw [ih n _ _ (fun i hi => hw i (by omega)) (by omega) (by omega), enc_s]
    refine congrArg some (congrArg nI ?_)
    rw [Nat.mul_add, Nat.mul_assoc c 11, Nat.mul_comm 11, Nat.add_assoc, Nat.add_comm (c * _) (c * _)]
theorem C_smoked {σ : Mem} {q : Nat} {I : IV} (h : IC σ q I) (ok : IOK I) {k : Nat} (hk : k < iK I) {w : Nat → Nat} {m : Nat} (hw : ∀ i, i < m → w i ≤ 10) (hm : m ≤ 5) : fX1_smoked σ q (nI (enc w m)) (nI k) = some (nI (enc (fun i => cpw I k (w i)) m)) := by
  have e := smoked_l h ok hk m FU 0 1 hw hm (by show _ < 1000; omega)
  rw [Nat.zero_add, Nat.one_mul] at e
  exact e
