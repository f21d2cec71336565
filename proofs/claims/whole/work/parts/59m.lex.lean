/-! the text, token by token -/
def isFg (c : Nat) : Bool := decide (48 ≤ c ∧ c ≤ 57)
def isIt (c : Nat) : Bool := decide (c = 113 ∨ c = 114 ∨ c = 98 ∨ c = 116 ∨ c = 107)
def skpN (X : XV) : Nat → Nat → Nat
  | 0, b => b
  | n + 1, b => if b < X.1 ∧ X.2 b = 32 then skpN X n (b + 1) else b
def skX (X : XV) (b : Nat) : Nat := skpN X (X.1 - b) b
theorem skX_y {X : XV} {b : Nat} (h1 : b < X.1) (h2 : X.2 b = 32) : skX X b = skX X (b + 1) := by
  unfold skX
  rw [show X.1 - b = (X.1 - (b + 1)) + 1 by omega]
  exact if_pos ⟨h1, h2⟩
theorem skX_n {X : XV} {b : Nat} (h : ¬ (b < X.1 ∧ X.2 b = 32)) : skX X b = b := by
  unfold skX
  cases X.1 - b with
  | zero => rfl
  | succ n => exact if_neg h
theorem skX_ge {X : XV} : ∀ (r b : Nat), b + r = X.1 → b ≤ skX X b ∧ skX X b ≤ X.1 ∧ ¬ (skX X b < X.1 ∧ X.2 (skX X b) = 32)
  | 0, b, h => by
    rw [skX_n (by omega)]
    exact ⟨Nat.le_refl b, by omega, by omega⟩
  | r + 1, b, h => by
    by_cases e : b < X.1 ∧ X.2 b = 32
    · have := skX_ge (X := X) r (b + 1) (by omega)
      rw [skX_y e.1 e.2]
      exact ⟨by omega, this.2⟩
    · rw [skX_n e]
      exact ⟨Nat.le_refl b, by omega, e⟩
def fgN (X : XV) : Nat → Nat → Nat
  | 0, b => b
  | n + 1, b => if b < X.1 ∧ isFg (X.2 b) = true then fgN X n (b + 1) else b
def fgX (X : XV) (b : Nat) : Nat := fgN X (X.1 - b) b
theorem fgX_y {X : XV} {b : Nat} (h1 : b < X.1) (h2 : isFg (X.2 b) = true) : fgX X b = fgX X (b + 1) := by
  unfold fgX
  rw [show X.1 - b = (X.1 - (b + 1)) + 1 by omega]
  exact if_pos ⟨h1, h2⟩
theorem fgX_n {X : XV} {b : Nat} (h : ¬ (b < X.1 ∧ isFg (X.2 b) = true)) : fgX X b = b := by
  unfold fgX
  cases X.1 - b with
  | zero => rfl
  | succ n => exact if_neg h
theorem fgX_ge {X : XV} : ∀ (r b : Nat), b + r = X.1 → b ≤ fgX X b ∧ fgX X b ≤ X.1
  | 0, b, h => by
    rw [fgX_n (by omega)]
    exact ⟨Nat.le_refl b, by omega⟩
  | r + 1, b, h => by
    by_cases e : b < X.1 ∧ isFg (X.2 b) = true
    · have := fgX_ge (X := X) r (b + 1) (by omega)
      rw [fgX_y e.1 e.2]
      exact ⟨by omega, this.2⟩
    · rw [fgX_n e]
      exact ⟨Nat.le_refl b, by omega⟩
def nVx (X : XV) (s : Nat) : Nat → Nat
  | 0 => 0
  | k + 1 => nVx X s k * 10 + (X.2 (s + k) - 48)
theorem nVx_s (X : XV) (s k : Nat) : nVx X s (k + 1) = nVx X s k * 10 + (X.2 (s + k) - 48) := rfl
theorem nVx_big {X : XV} {s : Nat} (h : 49 ≤ X.2 s) : ∀ k, 10000 ≤ nVx X s (k + 5)
  | 0 => by
    have e : nVx X s 5 = ((((0 * 10 + (X.2 (s + 0) - 48)) * 10 + (X.2 (s + 1) - 48)) * 10 + (X.2 (s + 2) - 48)) * 10 + (X.2 (s + 3) - 48)) * 10 + (X.2 (s + 4) - 48) := rfl
    rw [Nat.add_zero] at e
    show 10000 ≤ nVx X s 5
    omega
  | k + 1 => by
    have := nVx_big h k
    show 10000 ≤ nVx X s (k + 5) * 10 + (X.2 (s + (k + 5)) - 48)
    omega

/-- what the token that begins at s is: 0 the end, 1 a number, 2 wrong, else a letter -/
def kdX (X : XV) (s : Nat) : Nat := if X.1 ≤ s then 0 else if isFg (X.2 s) = true then (if X.2 s = 48 ∧ 1 < fgX X s - s then 2 else if nVx X s (fgX X s - s) ≤ 1023 then 1 else 2) else if isIt (X.2 s) = true ∨ X.2 s = 59 then X.2 s else 2
def enX (X : XV) (s : Nat) : Nat := if X.1 ≤ s then s else if isFg (X.2 s) = true then fgX X s else s + 1
def nxX (X : XV) (b : Nat) : Nat := enX X (skX X b)
def vlX (X : XV) (b : Nat) : Nat := nVx X (skX X b) (nxX X b - skX X b)
theorem enX_ge {X : XV} {s : Nat} (h : s ≤ X.1) : s ≤ enX X s ∧ enX X s ≤ X.1 ∧ (s < X.1 → s < enX X s) := by
  unfold enX
  by_cases e : X.1 ≤ s
  · rw [if_pos e]; exact ⟨Nat.le_refl s, h, fun q => by omega⟩
  · rw [if_neg e]
    by_cases e2 : isFg (X.2 s) = true
    · rw [if_pos e2, fgX_y (by omega) e2]
      have := fgX_ge (X := X) (X.1 - (s + 1)) (s + 1) (by omega)
      exact ⟨by omega, by omega, fun _ => by omega⟩
    · rw [if_neg e2]; exact ⟨by omega, by omega, fun _ => by omega⟩
theorem nxX_ge {X : XV} {b : Nat} (h : b ≤ X.1) : b ≤ nxX X b ∧ nxX X b ≤ X.1 ∧ (skX X b < X.1 → b < nxX X b) := by
  have h1 := skX_ge (X := X) (X.1 - b) b (by omega)
  have h2 := enX_ge (X := X) (s := skX X b) h1.2.1
  unfold nxX
  exact ⟨by omega, h2.2.1, fun q => by have := h2.2.2 q; omega⟩
theorem kdX_1 {X : XV} {b : Nat} (h : kdX X (skX X b) = 1) : skX X b < X.1 ∧ vlX X b ≤ 1023 := by
  unfold kdX at h
  by_cases e : X.1 ≤ skX X b
  · rw [if_pos e] at h; exact absurd h (by decide)
  · refine ⟨by omega, ?_⟩
    rw [if_neg e] at h
    unfold vlX nxX enX
    rw [if_neg e]
    by_cases e2 : isFg (X.2 (skX X b)) = true
    · rw [if_pos e2] at h ⊢
      by_cases e3 : X.2 (skX X b) = 48 ∧ 1 < fgX X (skX X b) - skX X b
      · rw [if_pos e3] at h; exact absurd h (by decide)
      · rw [if_neg e3] at h
        by_cases e4 : nVx X (skX X b) (fgX X (skX X b) - skX X b) ≤ 1023
        · exact e4
        · rw [if_neg e4] at h; exact absurd h (by decide)
    · rw [if_neg e2] at h
      by_cases e3 : isIt (X.2 (skX X b)) = true ∨ X.2 (skX X b) = 59
      · rw [if_pos e3] at h
        exfalso
        rcases e3 with e3 | e3
        · have := of_decide_eq_true e3; omega
        · omega
      · rw [if_neg e3] at h; exact absurd h (by decide)
/-! the class's tokens -/
theorem C_fig1 {c : Nat} (hc : c < 256) : fX4_isFigure (nI c) = some (if isFg c = true then 1 else 0) := by
  unfold fX4_isFigure isFg
  rw [show (48 : Int32) = nI 48 from rfl, show (57 : Int32) = nI 57 from rfl, iteL (by omega) (by omega), iteL (by omega) (by omega)]
  by_cases e1 : c < 48
  · rw [if_pos e1, if_neg (fun q => by have := of_decide_eq_true q; omega)]
  · rw [if_neg e1]
    by_cases e2 : 57 < c
    · rw [if_pos e2, if_neg (fun q => by have := of_decide_eq_true q; omega)]
    · rw [if_neg e2, if_pos (decide_eq_true (by omega))]
theorem C_let1 {c : Nat} (hc : c < 256) : fX4_isTokenLetter (nI c) = some (if isIt c = true ∨ c = 59 then 1 else 0) := by
  have h : ∀ c : Fin 256, fX4_isTokenLetter (nI c.val) = some (if isIt c.val = true ∨ c.val = 59 then 1 else 0) := by decide +kernel
  exact h ⟨c, hc⟩
abbrev FLc (o k : Nat) : Prop := o = 1 ∧ 2 ≤ k ∧ k ≤ 5
theorem C_skip {X : XV} (hX : XOK X) : ∀ (r b n : Nat) (σ : Mem), b + r = X.1 → r < n → TC σ X → mI σ 1 3 = nI b → ∃ σ', fX4_nextToken_8 1 n σ = fX4_nextToken_46 1 σ' ∧ mI σ' 1 3 = nI (skX X b) ∧ sameX FLc σ σ' := by
  have hL := hX.1
  intro r
  induction r with
  | zero =>
    intro b n σ hb hn hT h3
    obtain ⟨n, rfl⟩ : ∃ m, n = m + 1 := ⟨n - 1, by omega⟩
    refine ⟨σ, ?_, by rw [skX_n (by omega)]; exact h3, sameX.rf⟩
    rw [fX4_nextToken_8.eq_2, hT.1, h3, iteLE (by omega) (by omega), if_pos (by omega)]
  | succ r ih =>
    intro b n σ hb hn hT h3
    obtain ⟨n, rfl⟩ : ∃ m, n = m + 1 := ⟨n - 1, by omega⟩
    have hf := hX.2 b (by omega)
    rw [fX4_nextToken_8.eq_2, hT.1, h3, iteLE (by omega) (by omega), if_neg (by omega), gd_in (show b < 200 by omega) (by decide), clampN (by omega), hT.2 b (by omega), show (32 : Int32) = nI 32 from rfl, iteE (by omega) (by omega), nI_1]
    by_cases e : X.2 b = 32
    · rw [if_pos e, stp_s]
      have hs : sameX FLc σ (sI σ 1 3 (nI (b + 1))) := by repeat (first | exact sameX.rf | refine sameX.sI ?_ (by first | rfl | exact Or.inl rfl | exact Or.inr rfl | trivial | decide | omega | simp) _ | refine sameX.sA ?_ (by first | rfl | exact Or.inl rfl | exact Or.inr rfl | trivial | decide | omega | simp) _ _ | refine sameX.sL ?_ (by first | rfl | exact Or.inl rfl | exact Or.inr rfl | trivial | decide | omega | simp) _ | refine sameX.sP ?_ (by first | rfl | exact Or.inl rfl | exact Or.inr rfl | trivial | decide | omega | simp) _ | refine sameX.sB ?_ (by first | rfl | exact Or.inl rfl | exact Or.inr rfl | trivial | decide | omega | simp) _ _)
      obtain ⟨σ', e1, a1, s1⟩ := ih (b + 1) n (sI σ 1 3 (nI (b + 1))) (by omega) (by omega) (hT.keep hs ⟨by omega, by omega⟩) (by simp only [mI_sI, mI_sL, mI_sP, mI_sA, mI_sB, mL_sI, mL_sL, mL_sP, mL_sA, mL_sB, mP_sI, mP_sL, mP_sP, mP_sA, mP_sB, mA_sI, mA_sL, mA_sP, mA_sAg, mA_sB, mB_sI, mB_sL, mB_sP, mB_sA, mB_sBg, mE_sI, mE_sL, mE_sP, mE_sA, mE_sB, Nat.reduceEqDiff, Nat.reduceAdd, Nat.reduceMul, Nat.reduceSub, Nat.reduceLT, Nat.reduceLeDiff, Nat.reduceDiv, Nat.reduceMod, Nat.reduceBEq, and_true, true_and, and_false, false_and, and_self, ite_true, ite_false, if_true, if_false, reduceIte, eq_self, not_true, not_false_eq_true, Bool.true_and, Bool.and_true, Bool.false_and, Bool.and_false, Bool.or_true, Bool.true_or, Bool.or_false, Bool.false_or, Bool.not_true, Bool.not_false, reduceCtorEq, upd_e, Nat.add_eq_zero_iff, Nat.add_right_cancel_iff, Nat.add_left_cancel_iff])
      exact ⟨σ', e1, by rw [skX_y (by omega) e]; exact a1, hs.tr s1⟩
    · rw [if_neg e]
      exact ⟨σ, rfl, by rw [skX_n (fun q => e q.2)]; exact h3, sameX.rf⟩
theorem mnN {a b : Nat} (ha : a < 2147483648) (hb : b < 2147483648) : mnI (nI a) (nI b) = nI (min a b) := by
  unfold mnI
  rw [iteL hb ha]
  by_cases e : b < a
  · rw [if_pos e, Nat.min_eq_right (by omega)]
  · rw [if_neg e, Nat.min_eq_left (by omega)]
theorem C_num_l {X : XV} (hX : XOK X) {s : Nat} : ∀ (r k n : Nat) (σ : Mem), s + k + r = X.1 → r < n → TC σ X → mI σ 1 4 = nI (s + k) → mI σ 1 5 = nI (min (nVx X s k) 1024) → ∃ σ', fX4_readNumber_13 1 n σ = fX4_readNumber_82 1 σ' ∧ mI σ' 1 4 = nI (fgX X (s + k)) ∧ mI σ' 1 5 = nI (min (nVx X s (fgX X (s + k) - s)) 1024) ∧ sameX (fun o k => o = 1 ∧ (k = 4 ∨ k = 5)) σ σ' := by
  have hL := hX.1
  intro r
  induction r with
  | zero =>
    intro k n σ hb hn hT h4 h5
    obtain ⟨n, rfl⟩ : ∃ m, n = m + 1 := ⟨n - 1, by omega⟩
    have ef : fgX X (s + k) = s + k := fgX_n (by omega)
    refine ⟨σ, ?_, by rw [ef]; exact h4, by rw [ef, Nat.add_sub_cancel_left]; exact h5, sameX.rf⟩
    rw [fX4_readNumber_13.eq_2, hT.1, h4, iteLE (by omega) (by omega), if_pos (by omega)]
  | succ r ih =>
    intro k n σ hb hn hT h4 h5
    obtain ⟨n, rfl⟩ : ∃ m, n = m + 1 := ⟨n - 1, by omega⟩
    have hf := hX.2 (s + k) (by omega)
    rw [fX4_readNumber_13.eq_2, hT.1, h4, iteLE (by omega) (by omega), if_neg (by omega), gd_in (show s + k < 200 by omega) (by decide), clampN (by omega), hT.2 (s + k) (by omega), C_fig1 hf, bd_s]
    by_cases e : isFg (X.2 (s + k)) = true
    · have e48 := of_decide_eq_true e
      have ev : mnI (nI (min (nVx X s k) 1024) * (10 : Int32) + nI (X.2 (s + k)) - (48 : Int32)) (1024 : Int32) = nI (min (nVx X s (k + 1)) 1024) := by
        rw [show (10 : Int32) = nI 10 from rfl, pk_mul, nI_add, show (48 : Int32) = nI 48 from rfl, pk_sub (by omega), fa_lit 1024, mnN (by omega) (by omega), nVx_s]
        refine congrArg nI ?_
        omega
      rw [if_pos e, if_neg (show ¬ (1 : Int32) = 0 by decide), gd_in (show s + k < 200 by omega) (by decide), h5, ev, stp_s, stp_s]
      have h4' : mI (sI σ 1 5 (nI (min (nVx X s (k + 1)) 1024))) 1 4 = nI (s + k) := by simp only [mI_sI, mI_sL, mI_sP, mI_sA, mI_sB, mL_sI, mL_sL, mL_sP, mL_sA, mL_sB, mP_sI, mP_sL, mP_sP, mP_sA, mP_sB, mA_sI, mA_sL, mA_sP, mA_sAg, mA_sB, mB_sI, mB_sL, mB_sP, mB_sA, mB_sBg, mE_sI, mE_sL, mE_sP, mE_sA, mE_sB, Nat.reduceEqDiff, Nat.reduceAdd, Nat.reduceMul, Nat.reduceSub, Nat.reduceLT, Nat.reduceLeDiff, Nat.reduceDiv, Nat.reduceMod, Nat.reduceBEq, and_true, true_and, and_false, false_and, and_self, ite_true, ite_false, if_true, if_false, reduceIte, eq_self, not_true, not_false_eq_true, Bool.true_and, Bool.and_true, Bool.false_and, Bool.and_false, Bool.or_true, Bool.true_or, Bool.or_false, Bool.false_or, Bool.not_true, Bool.not_false, reduceCtorEq, upd_e, Nat.add_eq_zero_iff, Nat.add_right_cancel_iff, Nat.add_left_cancel_iff]; exact h4
      rw [h4', nI_1]
      have hs : sameX (fun o k => o = 1 ∧ (k = 4 ∨ k = 5)) σ (sI (sI σ 1 5 (nI (min (nVx X s (k + 1)) 1024))) 1 4 (nI (s + k + 1))) := by repeat (first | exact sameX.rf | refine sameX.sI ?_ (by first | rfl | exact Or.inl rfl | exact Or.inr rfl | trivial | decide | omega | simp) _ | refine sameX.sA ?_ (by first | rfl | exact Or.inl rfl | exact Or.inr rfl | trivial | decide | omega | simp) _ _ | refine sameX.sL ?_ (by first | rfl | exact Or.inl rfl | exact Or.inr rfl | trivial | decide | omega | simp) _ | refine sameX.sP ?_ (by first | rfl | exact Or.inl rfl | exact Or.inr rfl | trivial | decide | omega | simp) _ | refine sameX.sB ?_ (by first | rfl | exact Or.inl rfl | exact Or.inr rfl | trivial | decide | omega | simp) _ _)
      obtain ⟨σ', e1, a1, a2, s1⟩ := ih (k + 1) n (sI (sI σ 1 5 (nI (min (nVx X s (k + 1)) 1024))) 1 4 (nI (s + k + 1))) (by omega) (by omega) (hT.keep hs ⟨by omega, by omega⟩) (by simp only [mI_sI, mI_sL, mI_sP, mI_sA, mI_sB, mL_sI, mL_sL, mL_sP, mL_sA, mL_sB, mP_sI, mP_sL, mP_sP, mP_sA, mP_sB, mA_sI, mA_sL, mA_sP, mA_sAg, mA_sB, mB_sI, mB_sL, mB_sP, mB_sA, mB_sBg, mE_sI, mE_sL, mE_sP, mE_sA, mE_sB, Nat.reduceEqDiff, Nat.reduceAdd, Nat.reduceMul, Nat.reduceSub, Nat.reduceLT, Nat.reduceLeDiff, Nat.reduceDiv, Nat.reduceMod, Nat.reduceBEq, and_true, true_and, and_false, false_and, and_self, ite_true, ite_false, if_true, if_false, reduceIte, eq_self, not_true, not_false_eq_true, Bool.true_and, Bool.and_true, Bool.false_and, Bool.and_false, Bool.or_true, Bool.true_or, Bool.or_false, Bool.false_or, Bool.not_true, Bool.not_false, reduceCtorEq, upd_e, Nat.add_eq_zero_iff, Nat.add_right_cancel_iff, Nat.add_left_cancel_iff]; rfl) (by simp only [mI_sI, mI_sL, mI_sP, mI_sA, mI_sB, mL_sI, mL_sL, mL_sP, mL_sA, mL_sB, mP_sI, mP_sL, mP_sP, mP_sA, mP_sB, mA_sI, mA_sL, mA_sP, mA_sAg, mA_sB, mB_sI, mB_sL, mB_sP, mB_sA, mB_sBg, mE_sI, mE_sL, mE_sP, mE_sA, mE_sB, Nat.reduceEqDiff, Nat.reduceAdd, Nat.reduceMul, Nat.reduceSub, Nat.reduceLT, Nat.reduceLeDiff, Nat.reduceDiv, Nat.reduceMod, Nat.reduceBEq, and_true, true_and, and_false, false_and, and_self, ite_true, ite_false, if_true, if_false, reduceIte, eq_self, not_true, not_false_eq_true, Bool.true_and, Bool.and_true, Bool.false_and, Bool.and_false, Bool.or_true, Bool.true_or, Bool.or_false, Bool.false_or, Bool.not_true, Bool.not_false, reduceCtorEq, upd_e, Nat.add_eq_zero_iff, Nat.add_right_cancel_iff, Nat.add_left_cancel_iff])
      have ef : fgX X (s + k) = fgX X (s + (k + 1)) := fgX_y (by omega) e
      exact ⟨σ', e1, by rw [ef]; exact a1, by rw [ef]; exact a2, hs.tr s1⟩
    · have ef : fgX X (s + k) = s + k := fgX_n (fun q => e q.2)
      rw [if_neg e, if_pos rfl]
      exact ⟨σ, rfl, by rw [ef]; exact h4, by rw [ef, Nat.add_sub_cancel_left]; exact h5, sameX.rf⟩
/-- the class at its token -/
def CTk (σ : Mem) (X : XV) (b : Nat) : Prop := mI σ 1 2 = nI (kdX X (skX X b)) ∧ mI σ 1 3 = nI (skX X b) ∧ mI σ 1 4 = nI (nxX X b) ∧ (kdX X (skX X b) = 1 → mI σ 1 5 = nI (vlX X b))
theorem C_next {X : XV} (hX : XOK X) {σ : Mem} (hT : TC σ X) {b : Nat} (hb : b ≤ X.1) (h4 : mI σ 1 4 = nI b) : ∃ σ', fX4_nextToken σ 1 = some σ' ∧ CTk σ' X b ∧ sameX FLc σ σ' := by
  have hL := hX.1
  have s0 : sameX FLc σ (sI σ 1 3 (nI b)) := by repeat (first | exact sameX.rf | refine sameX.sI ?_ (by first | rfl | exact Or.inl rfl | exact Or.inr rfl | trivial | decide | omega | simp) _ | refine sameX.sA ?_ (by first | rfl | exact Or.inl rfl | exact Or.inr rfl | trivial | decide | omega | simp) _ _ | refine sameX.sL ?_ (by first | rfl | exact Or.inl rfl | exact Or.inr rfl | trivial | decide | omega | simp) _ | refine sameX.sP ?_ (by first | rfl | exact Or.inl rfl | exact Or.inr rfl | trivial | decide | omega | simp) _ | refine sameX.sB ?_ (by first | rfl | exact Or.inl rfl | exact Or.inr rfl | trivial | decide | omega | simp) _ _)
  obtain ⟨σ1, e1, a1, s1⟩ := C_skip hX (X.1 - b) b FU (sI σ 1 3 (nI b)) (by omega) (by show _ < 1000; omega) (hT.keep s0 ⟨by omega, by omega⟩) (by simp only [mI_sI, mI_sL, mI_sP, mI_sA, mI_sB, mL_sI, mL_sL, mL_sP, mL_sA, mL_sB, mP_sI, mP_sL, mP_sP, mP_sA, mP_sB, mA_sI, mA_sL, mA_sP, mA_sAg, mA_sB, mB_sI, mB_sL, mB_sP, mB_sA, mB_sBg, mE_sI, mE_sL, mE_sP, mE_sA, mE_sB, Nat.reduceEqDiff, Nat.reduceAdd, Nat.reduceMul, Nat.reduceSub, Nat.reduceLT, Nat.reduceLeDiff, Nat.reduceDiv, Nat.reduceMod, Nat.reduceBEq, and_true, true_and, and_false, false_and, and_self, ite_true, ite_false, if_true, if_false, reduceIte, eq_self, not_true, not_false_eq_true, Bool.true_and, Bool.and_true, Bool.false_and, Bool.and_false, Bool.or_true, Bool.true_or, Bool.or_false, Bool.false_or, Bool.not_true, Bool.not_false, reduceCtorEq, upd_e, Nat.add_eq_zero_iff, Nat.add_right_cancel_iff, Nat.add_left_cancel_iff])
  have s01 := s0.tr s1
  have hT1 : TC σ1 X := hT.keep s01 ⟨by omega, by omega⟩
  have hsk := skX_ge (X := X) (X.1 - b) b (by omega)
  have e0 : fX4_nextToken σ 1 = fX4_nextToken_46 1 σ1 := by
    unfold fX4_nextToken
    rw [h4, stp_s]
    exact e1
  rw [e0]
  unfold CTk vlX nxX
  generalize skX X b = s at a1 hsk
  unfold fX4_nextToken_46
  rw [a1, hT1.1, iteL (by omega) (by omega)]
  by_cases es : s < X.1
  · have hf := hX.2 s es
    have k0 : ¬ X.1 ≤ s := by omega
    rw [if_pos es, gd_in (show s < 200 by omega) (by decide), clampN (by omega), hT1.2 s es, C_fig1 hf, bd_s]
    by_cases ef : isFg (X.2 s) = true
    · have een : enX X s = fgX X s := by unfold enX; rw [if_neg k0, if_pos ef]
      have hfg := fgX_ge (X := X) (X.1 - s) s (by omega)
      have hfg1 : s < fgX X s := by
        have := (enX_ge (X := X) (s := s) (by omega)).2.2 es
        rw [een] at this; exact this
      rw [if_pos ef, if_neg (show ¬ (1 : Int32) = 0 by decide), een]
      unfold fX4_readNumber
      have h3' : mI (sI σ1 1 5 0) 1 3 = nI s := by simp only [mI_sI, mI_sL, mI_sP, mI_sA, mI_sB, mL_sI, mL_sL, mL_sP, mL_sA, mL_sB, mP_sI, mP_sL, mP_sP, mP_sA, mP_sB, mA_sI, mA_sL, mA_sP, mA_sAg, mA_sB, mB_sI, mB_sL, mB_sP, mB_sA, mB_sBg, mE_sI, mE_sL, mE_sP, mE_sA, mE_sB, Nat.reduceEqDiff, Nat.reduceAdd, Nat.reduceMul, Nat.reduceSub, Nat.reduceLT, Nat.reduceLeDiff, Nat.reduceDiv, Nat.reduceMod, Nat.reduceBEq, and_true, true_and, and_false, false_and, and_self, ite_true, ite_false, if_true, if_false, reduceIte, eq_self, not_true, not_false_eq_true, Bool.true_and, Bool.and_true, Bool.false_and, Bool.and_false, Bool.or_true, Bool.true_or, Bool.or_false, Bool.false_or, Bool.not_true, Bool.not_false, reduceCtorEq, upd_e, Nat.add_eq_zero_iff, Nat.add_right_cancel_iff, Nat.add_left_cancel_iff]; exact a1
      rw [stp_s, stp_s, h3']
      have s2 : sameX FLc σ1 (sI (sI σ1 1 5 0) 1 4 (nI s)) := by repeat (first | exact sameX.rf | refine sameX.sI ?_ (by first | rfl | exact Or.inl rfl | exact Or.inr rfl | trivial | decide | omega | simp) _ | refine sameX.sA ?_ (by first | rfl | exact Or.inl rfl | exact Or.inr rfl | trivial | decide | omega | simp) _ _ | refine sameX.sL ?_ (by first | rfl | exact Or.inl rfl | exact Or.inr rfl | trivial | decide | omega | simp) _ | refine sameX.sP ?_ (by first | rfl | exact Or.inl rfl | exact Or.inr rfl | trivial | decide | omega | simp) _ | refine sameX.sB ?_ (by first | rfl | exact Or.inl rfl | exact Or.inr rfl | trivial | decide | omega | simp) _ _)
      have hT2 : TC (sI (sI σ1 1 5 0) 1 4 (nI s)) X := hT1.keep s2 ⟨by omega, by omega⟩
      obtain ⟨σ2, e2, b4, b5, s3⟩ := C_num_l hX (s := s) (X.1 - s) 0 FU (sI (sI σ1 1 5 0) 1 4 (nI s)) (by omega) (by show _ < 1000; omega) hT2 (by simp only [mI_sI, mI_sL, mI_sP, mI_sA, mI_sB, mL_sI, mL_sL, mL_sP, mL_sA, mL_sB, mP_sI, mP_sL, mP_sP, mP_sA, mP_sB, mA_sI, mA_sL, mA_sP, mA_sAg, mA_sB, mB_sI, mB_sL, mB_sP, mB_sA, mB_sBg, mE_sI, mE_sL, mE_sP, mE_sA, mE_sB, Nat.reduceEqDiff, Nat.reduceAdd, Nat.reduceMul, Nat.reduceSub, Nat.reduceLT, Nat.reduceLeDiff, Nat.reduceDiv, Nat.reduceMod, Nat.reduceBEq, and_true, true_and, and_false, false_and, and_self, ite_true, ite_false, if_true, if_false, reduceIte, eq_self, not_true, not_false_eq_true, Bool.true_and, Bool.and_true, Bool.false_and, Bool.and_false, Bool.or_true, Bool.true_or, Bool.or_false, Bool.false_or, Bool.not_true, Bool.not_false, reduceCtorEq, upd_e, Nat.add_eq_zero_iff, Nat.add_right_cancel_iff, Nat.add_left_cancel_iff]; rfl) (by simp only [mI_sI, mI_sL, mI_sP, mI_sA, mI_sB, mL_sI, mL_sL, mL_sP, mL_sA, mL_sB, mP_sI, mP_sL, mP_sP, mP_sA, mP_sB, mA_sI, mA_sL, mA_sP, mA_sAg, mA_sB, mB_sI, mB_sL, mB_sP, mB_sA, mB_sBg, mE_sI, mE_sL, mE_sP, mE_sA, mE_sB, Nat.reduceEqDiff, Nat.reduceAdd, Nat.reduceMul, Nat.reduceSub, Nat.reduceLT, Nat.reduceLeDiff, Nat.reduceDiv, Nat.reduceMod, Nat.reduceBEq, and_true, true_and, and_false, false_and, and_self, ite_true, ite_false, if_true, if_false, reduceIte, eq_self, not_true, not_false_eq_true, Bool.true_and, Bool.and_true, Bool.false_and, Bool.and_false, Bool.or_true, Bool.true_or, Bool.or_false, Bool.false_or, Bool.not_true, Bool.not_false, reduceCtorEq, upd_e, Nat.add_eq_zero_iff, Nat.add_right_cancel_iff, Nat.add_left_cancel_iff]; rfl)
      rw [Nat.add_zero] at b4 b5
      have s3' : sameX FLc (sI (sI σ1 1 5 0) 1 4 (nI s)) σ2 := s3.mono (fun o k h => ⟨h.1, by omega, by omega⟩)
      have b3 : mI σ2 1 3 = nI s := by rw [(s3 1 3 (by omega)).1]; simp only [mI_sI, mI_sL, mI_sP, mI_sA, mI_sB, mL_sI, mL_sL, mL_sP, mL_sA, mL_sB, mP_sI, mP_sL, mP_sP, mP_sA, mP_sB, mA_sI, mA_sL, mA_sP, mA_sAg, mA_sB, mB_sI, mB_sL, mB_sP, mB_sA, mB_sBg, mE_sI, mE_sL, mE_sP, mE_sA, mE_sB, Nat.reduceEqDiff, Nat.reduceAdd, Nat.reduceMul, Nat.reduceSub, Nat.reduceLT, Nat.reduceLeDiff, Nat.reduceDiv, Nat.reduceMod, Nat.reduceBEq, and_true, true_and, and_false, false_and, and_self, ite_true, ite_false, if_true, if_false, reduceIte, eq_self, not_true, not_false_eq_true, Bool.true_and, Bool.and_true, Bool.false_and, Bool.and_false, Bool.or_true, Bool.true_or, Bool.or_false, Bool.false_or, Bool.not_true, Bool.not_false, reduceCtorEq, upd_e, Nat.add_eq_zero_iff, Nat.add_right_cancel_iff, Nat.add_left_cancel_iff]; exact a1
      have hT3 : TC σ2 X := hT2.keep s3' ⟨by omega, by omega⟩
      have sall : sameX FLc σ σ2 := s01.tr (s2.tr s3')
      have fin : ∀ (kd : Nat), kd ≤ 2 → kdX X s = kd → (kd = 1 → nVx X s (fgX X s - s) ≤ 1023) → (mI (sI σ2 1 2 (nI kd)) 1 2 = nI (kdX X s) ∧ mI (sI σ2 1 2 (nI kd)) 1 3 = nI s ∧ mI (sI σ2 1 2 (nI kd)) 1 4 = nI (fgX X s) ∧ (kdX X s = 1 → mI (sI σ2 1 2 (nI kd)) 1 5 = nI (nVx X s (fgX X s - s)))) ∧ sameX FLc σ (sI σ2 1 2 (nI kd)) := fun kd _ hk hv => by
        refine ⟨⟨by simp only [mI_sI, mI_sL, mI_sP, mI_sA, mI_sB, mL_sI, mL_sL, mL_sP, mL_sA, mL_sB, mP_sI, mP_sL, mP_sP, mP_sA, mP_sB, mA_sI, mA_sL, mA_sP, mA_sAg, mA_sB, mB_sI, mB_sL, mB_sP, mB_sA, mB_sBg, mE_sI, mE_sL, mE_sP, mE_sA, mE_sB, Nat.reduceEqDiff, Nat.reduceAdd, Nat.reduceMul, Nat.reduceSub, Nat.reduceLT, Nat.reduceLeDiff, Nat.reduceDiv, Nat.reduceMod, Nat.reduceBEq, and_true, true_and, and_false, false_and, and_self, ite_true, ite_false, if_true, if_false, reduceIte, eq_self, not_true, not_false_eq_true, Bool.true_and, Bool.and_true, Bool.false_and, Bool.and_false, Bool.or_true, Bool.true_or, Bool.or_false, Bool.false_or, Bool.not_true, Bool.not_false, reduceCtorEq, upd_e, Nat.add_eq_zero_iff, Nat.add_right_cancel_iff, Nat.add_left_cancel_iff]; rw [hk], by simp only [mI_sI, mI_sL, mI_sP, mI_sA, mI_sB, mL_sI, mL_sL, mL_sP, mL_sA, mL_sB, mP_sI, mP_sL, mP_sP, mP_sA, mP_sB, mA_sI, mA_sL, mA_sP, mA_sAg, mA_sB, mB_sI, mB_sL, mB_sP, mB_sA, mB_sBg, mE_sI, mE_sL, mE_sP, mE_sA, mE_sB, Nat.reduceEqDiff, Nat.reduceAdd, Nat.reduceMul, Nat.reduceSub, Nat.reduceLT, Nat.reduceLeDiff, Nat.reduceDiv, Nat.reduceMod, Nat.reduceBEq, and_true, true_and, and_false, false_and, and_self, ite_true, ite_false, if_true, if_false, reduceIte, eq_self, not_true, not_false_eq_true, Bool.true_and, Bool.and_true, Bool.false_and, Bool.and_false, Bool.or_true, Bool.true_or, Bool.or_false, Bool.false_or, Bool.not_true, Bool.not_false, reduceCtorEq, upd_e, Nat.add_eq_zero_iff, Nat.add_right_cancel_iff, Nat.add_left_cancel_iff]; exact b3, by simp only [mI_sI, mI_sL, mI_sP, mI_sA, mI_sB, mL_sI, mL_sL, mL_sP, mL_sA, mL_sB, mP_sI, mP_sL, mP_sP, mP_sA, mP_sB, mA_sI, mA_sL, mA_sP, mA_sAg, mA_sB, mB_sI, mB_sL, mB_sP, mB_sA, mB_sBg, mE_sI, mE_sL, mE_sP, mE_sA, mE_sB, Nat.reduceEqDiff, Nat.reduceAdd, Nat.reduceMul, Nat.reduceSub, Nat.reduceLT, Nat.reduceLeDiff, Nat.reduceDiv, Nat.reduceMod, Nat.reduceBEq, and_true, true_and, and_false, false_and, and_self, ite_true, ite_false, if_true, if_false, reduceIte, eq_self, not_true, not_false_eq_true, Bool.true_and, Bool.and_true, Bool.false_and, Bool.and_false, Bool.or_true, Bool.true_or, Bool.or_false, Bool.false_or, Bool.not_true, Bool.not_false, reduceCtorEq, upd_e, Nat.add_eq_zero_iff, Nat.add_right_cancel_iff, Nat.add_left_cancel_iff]; exact b4, fun q => ?_⟩, sall.sI ⟨rfl, by decide, by decide⟩ _⟩
        simp only [mI_sI, mI_sL, mI_sP, mI_sA, mI_sB, mL_sI, mL_sL, mL_sP, mL_sA, mL_sB, mP_sI, mP_sL, mP_sP, mP_sA, mP_sB, mA_sI, mA_sL, mA_sP, mA_sAg, mA_sB, mB_sI, mB_sL, mB_sP, mB_sA, mB_sBg, mE_sI, mE_sL, mE_sP, mE_sA, mE_sB, Nat.reduceEqDiff, Nat.reduceAdd, Nat.reduceMul, Nat.reduceSub, Nat.reduceLT, Nat.reduceLeDiff, Nat.reduceDiv, Nat.reduceMod, Nat.reduceBEq, and_true, true_and, and_false, false_and, and_self, ite_true, ite_false, if_true, if_false, reduceIte, eq_self, not_true, not_false_eq_true, Bool.true_and, Bool.and_true, Bool.false_and, Bool.and_false, Bool.or_true, Bool.true_or, Bool.or_false, Bool.false_or, Bool.not_true, Bool.not_false, reduceCtorEq, upd_e, Nat.add_eq_zero_iff, Nat.add_right_cancel_iff, Nat.add_left_cancel_iff]
        rw [b5]
        have := hv (by rw [← hk]; exact q)
        exact congrArg nI (by omega)
      have e2' : fX4_readNumber_13 1 FU (sI (sI σ1 1 5 0) 1 4 (nI s)) = fX4_readNumber_82 1 σ2 := e2
      rw [e2']
      have hkd : kdX X s = if X.2 s = 48 ∧ 1 < fgX X s - s then 2 else if nVx X s (fgX X s - s) ≤ 1023 then 1 else 2 := by
        unfold kdX; rw [if_neg k0, if_pos ef]
      have h114 : ∀ (_ : ¬ (X.2 s = 48 ∧ 1 < fgX X s - s)), ∃ σ', bd (fX4_readNumber_114 1 σ2 0) (fun σ26 => some σ26) = some σ' ∧ (mI σ' 1 2 = nI (kdX X s) ∧ mI σ' 1 3 = nI s ∧ mI σ' 1 4 = nI (fgX X s) ∧ (kdX X s = 1 → mI σ' 1 5 = nI (nVx X s (fgX X s - s)))) ∧ sameX FLc σ σ' := fun hz => by
        rw [if_neg hz] at hkd
        unfold fX4_readNumber_114
        rw [if_pos rfl, b5, fa_lit 1023, iteLE (by omega) (by omega)]
        by_cases ev : nVx X s (fgX X s - s) ≤ 1023
        · rw [if_pos ev] at hkd
          rw [if_pos (by omega)]
          exact ⟨sI σ2 1 2 (nI 1), rfl, fin 1 (by decide) hkd (fun _ => ev)⟩
        · rw [if_neg ev] at hkd
          rw [if_neg (by omega)]
          exact ⟨sI σ2 1 2 (nI 2), rfl, fin 2 (by decide) hkd (fun q => by omega)⟩
      unfold fX4_readNumber_82
      rw [b3, b4, gd_in (show s < 200 by omega) (by decide), clampN (by omega), hT3.2 s es, show (48 : Int32) = nI 48 from rfl, iteE (by omega) (by omega)]
      by_cases e48 : X.2 s = 48
      · rw [if_pos e48, pk_sub (by omega), l1, iteLE (by omega) (by omega)]
        by_cases elen : fgX X s - s ≤ 1
        · rw [if_pos elen]
          exact h114 (fun q => by omega)
        · rw [if_neg elen]
          rw [if_pos ⟨e48, by omega⟩] at hkd
          unfold fX4_readNumber_114
          rw [← l1, if_neg (show ¬ (1 : Int32) = 0 by decide)]
          exact ⟨sI σ2 1 2 (nI 2), rfl, fin 2 (by decide) hkd (fun q => by omega)⟩
      · rw [if_neg e48]
        exact h114 (fun q => e48 q.1)
    · have een : enX X s = s + 1 := by unfold enX; rw [if_neg k0, if_neg ef]
      rw [if_neg ef, if_pos rfl, gd_in (show s < 200 by omega) (by decide), C_let1 hf, bd_s, een]
      have hkd : kdX X s = if isIt (X.2 s) = true ∨ X.2 s = 59 then X.2 s else 2 := by
        unfold kdX; rw [if_neg k0, if_neg ef]
      have hne1 : kdX X s ≠ 1 := fun q => by
        rw [hkd] at q
        by_cases el : isIt (X.2 s) = true ∨ X.2 s = 59
        · rw [if_pos el] at q
          rcases el with el | el
          · have := of_decide_eq_true el; omega
          · omega
        · rw [if_neg el] at q; exact absurd q (by decide)
      by_cases el : isIt (X.2 s) = true ∨ X.2 s = 59
      · rw [if_pos el] at hkd
        rw [if_pos el, if_neg (show ¬ (1 : Int32) = 0 by decide), gd_in (show s < 200 by omega) (by decide)]
        refine exS (by simp only [stp_s]; rfl) ⟨⟨?_, ?_, ?_, fun q => absurd q hne1⟩, ?_⟩
        · simp only [mI_sI, mI_sL, mI_sP, mI_sA, mI_sB, mL_sI, mL_sL, mL_sP, mL_sA, mL_sB, mP_sI, mP_sL, mP_sP, mP_sA, mP_sB, mA_sI, mA_sL, mA_sP, mA_sAg, mA_sB, mB_sI, mB_sL, mB_sP, mB_sA, mB_sBg, mE_sI, mE_sL, mE_sP, mE_sA, mE_sB, Nat.reduceEqDiff, Nat.reduceAdd, Nat.reduceMul, Nat.reduceSub, Nat.reduceLT, Nat.reduceLeDiff, Nat.reduceDiv, Nat.reduceMod, Nat.reduceBEq, and_true, true_and, and_false, false_and, and_self, ite_true, ite_false, if_true, if_false, reduceIte, eq_self, not_true, not_false_eq_true, Bool.true_and, Bool.and_true, Bool.false_and, Bool.and_false, Bool.or_true, Bool.true_or, Bool.or_false, Bool.false_or, Bool.not_true, Bool.not_false, reduceCtorEq, upd_e, Nat.add_eq_zero_iff, Nat.add_right_cancel_iff, Nat.add_left_cancel_iff]; rw [hkd]
        · simp only [mI_sI, mI_sL, mI_sP, mI_sA, mI_sB, mL_sI, mL_sL, mL_sP, mL_sA, mL_sB, mP_sI, mP_sL, mP_sP, mP_sA, mP_sB, mA_sI, mA_sL, mA_sP, mA_sAg, mA_sB, mB_sI, mB_sL, mB_sP, mB_sA, mB_sBg, mE_sI, mE_sL, mE_sP, mE_sA, mE_sB, Nat.reduceEqDiff, Nat.reduceAdd, Nat.reduceMul, Nat.reduceSub, Nat.reduceLT, Nat.reduceLeDiff, Nat.reduceDiv, Nat.reduceMod, Nat.reduceBEq, and_true, true_and, and_false, false_and, and_self, ite_true, ite_false, if_true, if_false, reduceIte, eq_self, not_true, not_false_eq_true, Bool.true_and, Bool.and_true, Bool.false_and, Bool.and_false, Bool.or_true, Bool.true_or, Bool.or_false, Bool.false_or, Bool.not_true, Bool.not_false, reduceCtorEq, upd_e, Nat.add_eq_zero_iff, Nat.add_right_cancel_iff, Nat.add_left_cancel_iff]; exact a1
        · simp only [mI_sI, mI_sL, mI_sP, mI_sA, mI_sB, mL_sI, mL_sL, mL_sP, mL_sA, mL_sB, mP_sI, mP_sL, mP_sP, mP_sA, mP_sB, mA_sI, mA_sL, mA_sP, mA_sAg, mA_sB, mB_sI, mB_sL, mB_sP, mB_sA, mB_sBg, mE_sI, mE_sL, mE_sP, mE_sA, mE_sB, Nat.reduceEqDiff, Nat.reduceAdd, Nat.reduceMul, Nat.reduceSub, Nat.reduceLT, Nat.reduceLeDiff, Nat.reduceDiv, Nat.reduceMod, Nat.reduceBEq, and_true, true_and, and_false, false_and, and_self, ite_true, ite_false, if_true, if_false, reduceIte, eq_self, not_true, not_false_eq_true, Bool.true_and, Bool.and_true, Bool.false_and, Bool.and_false, Bool.or_true, Bool.true_or, Bool.or_false, Bool.false_or, Bool.not_true, Bool.not_false, reduceCtorEq, upd_e, Nat.add_eq_zero_iff, Nat.add_right_cancel_iff, Nat.add_left_cancel_iff]; rw [a1, nI_1]
        · exact (s01.sI ⟨rfl, by decide, by decide⟩ _).sI ⟨rfl, by decide, by decide⟩ _
      · rw [if_neg el] at hkd
        rw [if_neg el, if_pos rfl]
        refine exS (by simp only [stp_s]; rfl) ⟨⟨?_, ?_, ?_, fun q => absurd q hne1⟩, ?_⟩
        · simp only [mI_sI, mI_sL, mI_sP, mI_sA, mI_sB, mL_sI, mL_sL, mL_sP, mL_sA, mL_sB, mP_sI, mP_sL, mP_sP, mP_sA, mP_sB, mA_sI, mA_sL, mA_sP, mA_sAg, mA_sB, mB_sI, mB_sL, mB_sP, mB_sA, mB_sBg, mE_sI, mE_sL, mE_sP, mE_sA, mE_sB, Nat.reduceEqDiff, Nat.reduceAdd, Nat.reduceMul, Nat.reduceSub, Nat.reduceLT, Nat.reduceLeDiff, Nat.reduceDiv, Nat.reduceMod, Nat.reduceBEq, and_true, true_and, and_false, false_and, and_self, ite_true, ite_false, if_true, if_false, reduceIte, eq_self, not_true, not_false_eq_true, Bool.true_and, Bool.and_true, Bool.false_and, Bool.and_false, Bool.or_true, Bool.true_or, Bool.or_false, Bool.false_or, Bool.not_true, Bool.not_false, reduceCtorEq, upd_e, Nat.add_eq_zero_iff, Nat.add_right_cancel_iff, Nat.add_left_cancel_iff]; rw [hkd]; rfl
        · simp only [mI_sI, mI_sL, mI_sP, mI_sA, mI_sB, mL_sI, mL_sL, mL_sP, mL_sA, mL_sB, mP_sI, mP_sL, mP_sP, mP_sA, mP_sB, mA_sI, mA_sL, mA_sP, mA_sAg, mA_sB, mB_sI, mB_sL, mB_sP, mB_sA, mB_sBg, mE_sI, mE_sL, mE_sP, mE_sA, mE_sB, Nat.reduceEqDiff, Nat.reduceAdd, Nat.reduceMul, Nat.reduceSub, Nat.reduceLT, Nat.reduceLeDiff, Nat.reduceDiv, Nat.reduceMod, Nat.reduceBEq, and_true, true_and, and_false, false_and, and_self, ite_true, ite_false, if_true, if_false, reduceIte, eq_self, not_true, not_false_eq_true, Bool.true_and, Bool.and_true, Bool.false_and, Bool.and_false, Bool.or_true, Bool.true_or, Bool.or_false, Bool.false_or, Bool.not_true, Bool.not_false, reduceCtorEq, upd_e, Nat.add_eq_zero_iff, Nat.add_right_cancel_iff, Nat.add_left_cancel_iff]; exact a1
        · simp only [mI_sI, mI_sL, mI_sP, mI_sA, mI_sB, mL_sI, mL_sL, mL_sP, mL_sA, mL_sB, mP_sI, mP_sL, mP_sP, mP_sA, mP_sB, mA_sI, mA_sL, mA_sP, mA_sAg, mA_sB, mB_sI, mB_sL, mB_sP, mB_sA, mB_sBg, mE_sI, mE_sL, mE_sP, mE_sA, mE_sB, Nat.reduceEqDiff, Nat.reduceAdd, Nat.reduceMul, Nat.reduceSub, Nat.reduceLT, Nat.reduceLeDiff, Nat.reduceDiv, Nat.reduceMod, Nat.reduceBEq, and_true, true_and, and_false, false_and, and_self, ite_true, ite_false, if_true, if_false, reduceIte, eq_self, not_true, not_false_eq_true, Bool.true_and, Bool.and_true, Bool.false_and, Bool.and_false, Bool.or_true, Bool.true_or, Bool.or_false, Bool.false_or, Bool.not_true, Bool.not_false, reduceCtorEq, upd_e, Nat.add_eq_zero_iff, Nat.add_right_cancel_iff, Nat.add_left_cancel_iff]; rw [a1, nI_1]
        · exact (s01.sI ⟨rfl, by decide, by decide⟩ _).sI ⟨rfl, by decide, by decide⟩ _
  · have k0 : X.1 ≤ s := by omega
    have hkd : kdX X s = 0 := by unfold kdX; rw [if_pos k0]
    have een : enX X s = s := by unfold enX; rw [if_pos k0]
    rw [if_neg es, een]
    refine exS (by simp only [stp_s]; rfl) ⟨⟨?_, ?_, ?_, fun q => by rw [hkd] at q; exact absurd q (by decide)⟩, ?_⟩
    · simp only [mI_sI, mI_sL, mI_sP, mI_sA, mI_sB, mL_sI, mL_sL, mL_sP, mL_sA, mL_sB, mP_sI, mP_sL, mP_sP, mP_sA, mP_sB, mA_sI, mA_sL, mA_sP, mA_sAg, mA_sB, mB_sI, mB_sL, mB_sP, mB_sA, mB_sBg, mE_sI, mE_sL, mE_sP, mE_sA, mE_sB, Nat.reduceEqDiff, Nat.reduceAdd, Nat.reduceMul, Nat.reduceSub, Nat.reduceLT, Nat.reduceLeDiff, Nat.reduceDiv, Nat.reduceMod, Nat.reduceBEq, and_true, true_and, and_false, false_and, and_self, ite_true, ite_false, if_true, if_false, reduceIte, eq_self, not_true, not_false_eq_true, Bool.true_and, Bool.and_true, Bool.false_and, Bool.and_false, Bool.or_true, Bool.true_or, Bool.or_false, Bool.false_or, Bool.not_true, Bool.not_false, reduceCtorEq, upd_e, Nat.add_eq_zero_iff, Nat.add_right_cancel_iff, Nat.add_left_cancel_iff]; rw [hkd]; rfl
    · simp only [mI_sI, mI_sL, mI_sP, mI_sA, mI_sB, mL_sI, mL_sL, mL_sP, mL_sA, mL_sB, mP_sI, mP_sL, mP_sP, mP_sA, mP_sB, mA_sI, mA_sL, mA_sP, mA_sAg, mA_sB, mB_sI, mB_sL, mB_sP, mB_sA, mB_sBg, mE_sI, mE_sL, mE_sP, mE_sA, mE_sB, Nat.reduceEqDiff, Nat.reduceAdd, Nat.reduceMul, Nat.reduceSub, Nat.reduceLT, Nat.reduceLeDiff, Nat.reduceDiv, Nat.reduceMod, Nat.reduceBEq, and_true, true_and, and_false, false_and, and_self, ite_true, ite_false, if_true, if_false, reduceIte, eq_self, not_true, not_false_eq_true, Bool.true_and, Bool.and_true, Bool.false_and, Bool.and_false, Bool.or_true, Bool.true_or, Bool.or_false, Bool.false_or, Bool.not_true, Bool.not_false, reduceCtorEq, upd_e, Nat.add_eq_zero_iff, Nat.add_right_cancel_iff, Nat.add_left_cancel_iff]; exact a1
    · simp only [mI_sI, mI_sL, mI_sP, mI_sA, mI_sB, mL_sI, mL_sL, mL_sP, mL_sA, mL_sB, mP_sI, mP_sL, mP_sP, mP_sA, mP_sB, mA_sI, mA_sL, mA_sP, mA_sAg, mA_sB, mB_sI, mB_sL, mB_sP, mB_sA, mB_sBg, mE_sI, mE_sL, mE_sP, mE_sA, mE_sB, Nat.reduceEqDiff, Nat.reduceAdd, Nat.reduceMul, Nat.reduceSub, Nat.reduceLT, Nat.reduceLeDiff, Nat.reduceDiv, Nat.reduceMod, Nat.reduceBEq, and_true, true_and, and_false, false_and, and_self, ite_true, ite_false, if_true, if_false, reduceIte, eq_self, not_true, not_false_eq_true, Bool.true_and, Bool.and_true, Bool.false_and, Bool.and_false, Bool.or_true, Bool.true_or, Bool.or_false, Bool.false_or, Bool.not_true, Bool.not_false, reduceCtorEq, upd_e, Nat.add_eq_zero_iff, Nat.add_right_cancel_iff, Nat.add_left_cancel_iff]; exact a1
    · exact (s01.sI ⟨rfl, by decide, by decide⟩ _).sI ⟨rfl, by decide, by decide⟩ _
