/-! well -/
def stp1 (x : Nat) (f : Nat → Nat) : Nat → Nat
  | 0 => f 0 * (10 - x)
  | j + 1 => f (j + 1) * (10 - x) + f j * x
theorem stp1_comm (x y : Nat) (f : Nat → Nat) : ∀ j, stp1 x (stp1 y f) j = stp1 y (stp1 x f) j := by
  intro j
  generalize hu : 10 - x = u
  generalize hv : 10 - y = v
  match j with
  | 0 =>
    show f 0 * (10 - y) * (10 - x) = f 0 * (10 - x) * (10 - y)
    rw [hu, hv, Nat.mul_right_comm]
  | 1 =>
    show (f 1 * (10 - y) + f 0 * y) * (10 - x) + f 0 * (10 - y) * x = (f 1 * (10 - x) + f 0 * x) * (10 - y) + f 0 * (10 - x) * y
    rw [hu, hv, Nat.add_mul, Nat.add_mul, Nat.mul_right_comm (f 1) v u, Nat.mul_right_comm (f 0) y u, Nat.mul_right_comm (f 0) v x]
    omega
  | j + 2 =>
    show (f (j + 2) * (10 - y) + f (j + 1) * y) * (10 - x) + (f (j + 1) * (10 - y) + f j * y) * x = (f (j + 2) * (10 - x) + f (j + 1) * x) * (10 - y) + (f (j + 1) * (10 - x) + f j * x) * y
    rw [hu, hv, Nat.add_mul, Nat.add_mul, Nat.add_mul, Nat.add_mul, Nat.mul_right_comm (f (j + 2)) v u, Nat.mul_right_comm (f (j + 1)) y u, Nat.mul_right_comm (f (j + 1)) v x, Nat.mul_right_comm (f j) y x]
    omega
theorem stp1_c {x : Nat} {f g : Nat → Nat} (h : ∀ j, f j = g j) : ∀ j, stp1 x f j = stp1 x g j := by
  have : f = g := funext h
  rw [this]; intro j; rfl
/-- ways by numbers of sick, of the first travellers but e -/
def dW (X : Nat → Nat) (e : Nat) : Nat → Nat → Nat
  | 0, j => if j = 0 then 1 else 0
  | i + 1, j => if i = e then dW X e i j else stp1 (X i) (dW X e i) j
theorem dW_s (X : Nat → Nat) (e i j : Nat) : dW X e (i + 1) j = if i = e then dW X e i j else stp1 (X i) (dW X e i) j := rfl
theorem dW_all {X : Nat → Nat} {e : Nat} (he : e < 99) : ∀ (i : Nat), i ≤ 99 → ∀ j, dW X 99 i j = if e < i then stp1 (X e) (dW X e i) j else dW X e i j
  | 0, _, j => by rw [if_neg (Nat.not_lt_zero e)]; rfl
  | i + 1, hi, j => by
    have ih := dW_all (X := X) he i (by omega)
    rw [dW_s, if_neg (show ¬ i = 99 by omega)]
    by_cases e1 : e < i
    · rw [if_pos (by omega)]
      have h1 : ∀ j, dW X 99 i j = stp1 (X e) (dW X e i) j := fun j => by rw [ih j, if_pos e1]
      rw [stp1_c h1, stp1_comm]
      refine stp1_c (fun j => ?_) j
      rw [dW_s, if_neg (by omega)]
    · have h1 : ∀ j, dW X 99 i j = dW X e i j := fun j => by rw [ih j, if_neg e1]
      rw [stp1_c h1]
      by_cases e2 : i = e
      · subst e2
        rw [if_pos (by omega)]
        refine stp1_c (fun j => ?_) j
        rw [dW_s, if_pos rfl]
      · rw [if_neg (by omega), dW_s, if_neg e2]
theorem stp1_le {x m : Nat} {f : Nat → Nat} (hx : x ≤ 10) (h : ∀ j, f j ≤ m) : ∀ j, stp1 x f j ≤ m * 10
  | 0 => Nat.mul_le_mul (h 0) (by omega)
  | j + 1 => by
    have a := Nat.mul_le_mul (h (j + 1)) (Nat.le_refl (10 - x))
    have b := Nat.mul_le_mul (h j) (Nat.le_refl x)
    have c : m * 10 = m * (10 - x) + m * x := by rw [← Nat.mul_add]; exact congrArg (m * ·) (by omega)
    show f (j + 1) * (10 - x) + f j * x ≤ m * 10
    omega
theorem dW_le {X : Nat → Nat} {e : Nat} : ∀ (i : Nat), (∀ t, t < i → X t ≤ 10) → ∀ j, dW X e i j ≤ 10 ^ i
  | 0, _, j => by show (if j = 0 then 1 else 0) ≤ 1; split <;> omega
  | i + 1, h, j => by
    have ih := dW_le (X := X) (e := e) i (fun t ht => h t (by omega))
    rw [dW_s, Nat.pow_succ]
    split
    · have := ih j; omega
    · exact stp1_le (h i (by omega)) ih j
theorem C_sick50 (K : Mem → Int32 → Int32 → Option Mem) (x1 x2 : Int32) {x : Nat} (hx : x ≤ 10) {f : Nat → Nat} : ∀ (j n : Nat) (σ : Mem), j ≤ 6 → j < n → (∀ i, i ≤ j → mA σ 0 12 i = nI (f i)) → (∀ i, j < i → i < 7 → mA σ 0 12 i = nI (stp1 x f i)) → ∃ σ', fX5_countSickWays_50 K 0 n σ x1 x2 (nI x) (nI j) = K σ' x1 (x2 + 1) ∧ (∀ i, i < 7 → mA σ' 0 12 i = nI (stp1 x f i)) ∧ sameX (fun o k => o = 0 ∧ k = 12) σ σ' ∧ ∀ o k, mP σ' o k = mP σ o k := by
  intro j
  induction j with
  | zero =>
    intro n σ h6 hn h1 h2
    obtain ⟨n, rfl⟩ : ∃ m, n = m + 1 := ⟨n - 1, by omega⟩
    refine ⟨sA σ 0 12 0 (nI (f 0 * (10 - x))), ?_, fun i hi => ?_, by repeat (first | exact sameX.rf | refine sameX.sI ?_ (by first | rfl | exact Or.inl rfl | exact Or.inr rfl | trivial | decide | omega | simp) _ | refine sameX.sA ?_ (by first | rfl | exact Or.inl rfl | exact Or.inr rfl | trivial | decide | omega | simp) _ _ | refine sameX.sL ?_ (by first | rfl | exact Or.inl rfl | exact Or.inr rfl | trivial | decide | omega | simp) _ | refine sameX.sP ?_ (by first | rfl | exact Or.inl rfl | exact Or.inr rfl | trivial | decide | omega | simp) _ | refine sameX.sB ?_ (by first | rfl | exact Or.inl rfl | exact Or.inr rfl | trivial | decide | omega | simp) _ _), fun o k => rfl⟩
    · rw [fX5_countSickWays_50.eq_2, if_pos (show nI 0 ≤ 0 by decide), l0, gd_in (show 0 < 7 by decide) (by decide), gd_in (show 0 < 7 by decide) (by decide), stp_s, clampN (by decide), h1 0 (Nat.le_refl 0), ten_sub hx, pk_mul]
    · simp only [mI_sI, mI_sL, mI_sP, mI_sA, mI_sB, mL_sI, mL_sL, mL_sP, mL_sA, mL_sB, mP_sI, mP_sL, mP_sP, mP_sA, mP_sB, mA_sI, mA_sL, mA_sP, mA_sAg, mA_sB, mB_sI, mB_sL, mB_sP, mB_sA, mB_sBg, mE_sI, mE_sL, mE_sP, mE_sA, mE_sB, Nat.reduceEqDiff, Nat.reduceAdd, Nat.reduceMul, Nat.reduceSub, Nat.reduceLT, Nat.reduceLeDiff, Nat.reduceDiv, Nat.reduceMod, Nat.reduceBEq, and_true, true_and, and_false, false_and, and_self, ite_true, ite_false, if_true, if_false, reduceIte, eq_self, not_true, not_false_eq_true, Bool.true_and, Bool.and_true, Bool.false_and, Bool.and_false, Bool.or_true, Bool.true_or, Bool.or_false, Bool.false_or, Bool.not_true, Bool.not_false, reduceCtorEq, upd_e, Nat.add_eq_zero_iff, Nat.add_right_cancel_iff, Nat.add_left_cancel_iff]
      by_cases e : i = 0
      · rw [if_pos e, e]; rfl
      · rw [if_neg e]; exact h2 i (by omega) hi
  | succ j ih =>
    intro n σ h6 hn h1 h2
    obtain ⟨n, rfl⟩ : ∃ m, n = m + 1 := ⟨n - 1, by omega⟩
    obtain ⟨σ', e1, a1, s1, p1⟩ := ih n (sA σ 0 12 (j + 1) (nI (f (j + 1) * (10 - x) + f j * x))) (by omega) (by omega) (fun i hi => by simp only [mI_sI, mI_sL, mI_sP, mI_sA, mI_sB, mL_sI, mL_sL, mL_sP, mL_sA, mL_sB, mP_sI, mP_sL, mP_sP, mP_sA, mP_sB, mA_sI, mA_sL, mA_sP, mA_sAg, mA_sB, mB_sI, mB_sL, mB_sP, mB_sA, mB_sBg, mE_sI, mE_sL, mE_sP, mE_sA, mE_sB, Nat.reduceEqDiff, Nat.reduceAdd, Nat.reduceMul, Nat.reduceSub, Nat.reduceLT, Nat.reduceLeDiff, Nat.reduceDiv, Nat.reduceMod, Nat.reduceBEq, and_true, true_and, and_false, false_and, and_self, ite_true, ite_false, if_true, if_false, reduceIte, eq_self, not_true, not_false_eq_true, Bool.true_and, Bool.and_true, Bool.false_and, Bool.and_false, Bool.or_true, Bool.true_or, Bool.or_false, Bool.false_or, Bool.not_true, Bool.not_false, reduceCtorEq, upd_e, Nat.add_eq_zero_iff, Nat.add_right_cancel_iff, Nat.add_left_cancel_iff]; rw [if_neg (by omega)]; exact h1 i (by omega)) (fun i hi hi7 => by
      simp only [mI_sI, mI_sL, mI_sP, mI_sA, mI_sB, mL_sI, mL_sL, mL_sP, mL_sA, mL_sB, mP_sI, mP_sL, mP_sP, mP_sA, mP_sB, mA_sI, mA_sL, mA_sP, mA_sAg, mA_sB, mB_sI, mB_sL, mB_sP, mB_sA, mB_sBg, mE_sI, mE_sL, mE_sP, mE_sA, mE_sB, Nat.reduceEqDiff, Nat.reduceAdd, Nat.reduceMul, Nat.reduceSub, Nat.reduceLT, Nat.reduceLeDiff, Nat.reduceDiv, Nat.reduceMod, Nat.reduceBEq, and_true, true_and, and_false, false_and, and_self, ite_true, ite_false, if_true, if_false, reduceIte, eq_self, not_true, not_false_eq_true, Bool.true_and, Bool.and_true, Bool.false_and, Bool.and_false, Bool.or_true, Bool.true_or, Bool.or_false, Bool.false_or, Bool.not_true, Bool.not_false, reduceCtorEq, upd_e, Nat.add_eq_zero_iff, Nat.add_right_cancel_iff, Nat.add_left_cancel_iff]
      by_cases e : i = j + 1
      · rw [if_pos e, e]; rfl
      · rw [if_neg e]; exact h2 i (by omega) hi7)
    refine ⟨σ', ?_, a1, sameX.tr (by repeat (first | exact sameX.rf | refine sameX.sI ?_ (by first | rfl | exact Or.inl rfl | exact Or.inr rfl | trivial | decide | omega | simp) _ | refine sameX.sA ?_ (by first | rfl | exact Or.inl rfl | exact Or.inr rfl | trivial | decide | omega | simp) _ _ | refine sameX.sL ?_ (by first | rfl | exact Or.inl rfl | exact Or.inr rfl | trivial | decide | omega | simp) _ | refine sameX.sP ?_ (by first | rfl | exact Or.inl rfl | exact Or.inr rfl | trivial | decide | omega | simp) _ | refine sameX.sB ?_ (by first | rfl | exact Or.inl rfl | exact Or.inr rfl | trivial | decide | omega | simp) _ _)) s1, fun o k => p1 o k⟩
    rw [fX5_countSickWays_50.eq_2, if_neg (by rw [l0, leN (by omega) (by omega)]; omega), nI_pred, gd_in (by omega) (by decide), gd_in (by omega) (by decide), gd_in (by omega) (by decide), clampN (by omega), clampN (by omega), h1 (j + 1) (Nat.le_refl _), h1 j (by omega), ten_sub hx, pk_mul, pk_mul, nI_add, stp_s, pk_m1]
    exact e1
theorem C_sick17 {q q2 : Nat} {A : AS} (ok : AOK A) {e : Nat} : ∀ (d i n : Nat) (σ : Mem), CSq σ q q2 A → i + d = iT (aI A) → d < n → e < iT (aI A) → (∀ j, j < 7 → mA σ 0 12 j = nI (dW (iX (aI A)) e i j)) → ∃ σ', fX5_countSickWays_17 0 n σ (nI e) (nI i) = some σ' ∧ (∀ j, j < 7 → mA σ' 0 12 j = nI (dW (iX (aI A)) e (iT (aI A)) j)) ∧ CSq σ' q q2 A := by
  have hT := ok.1.2.2.2.1
  intro d
  induction d with
  | zero =>
    intro i n σ hC hi hn he ha
    obtain ⟨n, rfl⟩ : ∃ m, n = m + 1 := ⟨n - 1, by omega⟩
    refine ⟨σ, ?_, ?_, hC⟩
    · rw [fX5_countSickWays_17.eq_2, hC.1.2.2.2.2.1, hC.2.1.2.2.2.1, iteLE (by omega) (by omega), if_pos (by omega)]
    · rw [show iT (aI A) = i by omega]; exact ha
  | succ d ih =>
    intro i n σ hC hi hn he ha
    obtain ⟨n, rfl⟩ : ∃ m, n = m + 1 := ⟨n - 1, by omega⟩
    have hx := (ok.1.2.2.2.2.2.1 i (by omega)).2
    by_cases ee : i = e
    · obtain ⟨σ', e1, a1, c1⟩ := ih (i + 1) n σ hC (by omega) (by omega) he (fun j hj => by rw [ha j hj, dW_s, if_pos ee])
      refine ⟨σ', ?_, a1, c1⟩
      rw [fX5_countSickWays_17.eq_2, hC.1.2.2.2.2.1, hC.2.1.2.2.2.1, iteLE (by omega) (by omega), if_neg (by omega), iteE (by omega) (by omega), if_pos ee, nI_1]
      exact e1
    · obtain ⟨σ1, e1, a1, s1, p1⟩ := C_sick50 (fX5_countSickWays_17 0 n) (nI e) (nI i) hx 6 FU σ (Nat.le_refl 6) (by decide) (fun j hj => ha j (by omega)) (fun j h1 h2 => by omega)
      have c1 : CSq σ1 q q2 A := hC.scratch (s1.mono (fun o k h => Or.inr ⟨h.1, Or.inr h.2⟩)) ⟨p1 0 11, p1 0 12⟩
      obtain ⟨σ', e2, a2, c2⟩ := ih (i + 1) n σ1 c1 (by omega) (by omega) he (fun j hj => by rw [a1 j hj, dW_s, if_neg ee])
      refine ⟨σ', ?_, a2, c2⟩
      rw [fX5_countSickWays_17.eq_2, hC.1.2.2.2.2.1, hC.2.1.2.2.2.1, iteLE (by omega) (by omega), if_neg (by omega), iteE (by omega) (by omega), if_neg ee, gd_in (by omega) (by decide), clampN (by omega), hC.2.1.2.2.2.2.2.2.1 i (by omega)]
      refine Eq.trans e1 ?_
      rw [nI_1]
      exact e2
theorem C_sick {σ : Mem} {q q2 : Nat} {A : AS} (ok : AOK A) (hC : CSq σ q q2 A) {e : Nat} (he : e < iT (aI A)) : ∃ σ', fX5_countSickWays σ 0 (nI e) = some σ' ∧ (∀ j, j < 7 → mA σ' 0 12 j = nI (dW (iX (aI A)) e (iT (aI A)) j)) ∧ CSq σ' q q2 A := by
  obtain ⟨m, hm⟩ : ∃ m, FU = m + 8 := ⟨992, rfl⟩
  have hf : fJ7_fill_53178 σ 0 12 7 0 = some (sA (sA (sA (sA (sA (sA (sA σ 0 12 0 (nI 0)) 0 12 1 (nI 0)) 0 12 2 (nI 0)) 0 12 3 (nI 0)) 0 12 4 (nI 0)) 0 12 5 (nI 0)) 0 12 6 (nI 0)) := by
    simp (disch := omega) only [fJ7_fill_53178, hm, fJ7_fill_53178_5, stp_s, bd_s, bd2_s, gd_t, gd_in, clampN, fa_lit, ofN, nI_add, pk_mul, leN, ltN, eqN, eqNg, gNeq, gNlt, gNle, ltNg, leNg, gg, mI_sI, mI_sL, mI_sP, mI_sA, mI_sB, mL_sI, mL_sL, mL_sP, mL_sA, mL_sB, mP_sI, mP_sL, mP_sP, mP_sA, mP_sB, mA_sI, mA_sL, mA_sP, mA_sAg, mA_sB, mB_sI, mB_sL, mB_sP, mB_sA, mB_sBg, mE_sI, mE_sL, mE_sP, mE_sA, mE_sB, Nat.reduceEqDiff, Nat.reduceAdd, Nat.reduceMul, Nat.reduceSub, Nat.reduceLT, Nat.reduceLeDiff, Nat.reduceDiv, Nat.reduceMod, Nat.reduceBEq, and_true, true_and, and_false, false_and, and_self, ite_true, ite_false, if_true, if_false, reduceIte, eq_self, not_true, not_false_eq_true, Bool.true_and, Bool.and_true, Bool.false_and, Bool.and_false, Bool.or_true, Bool.true_or, Bool.or_false, Bool.false_or, Bool.not_true, Bool.not_false, reduceCtorEq, upd_e, Nat.add_eq_zero_iff, Nat.add_right_cancel_iff, Nat.add_left_cancel_iff, decide_true, decide_false, Bool.false_eq_true, decide_eq_true_eq]
  have c1 : CSq (sA (sA (sA (sA (sA (sA (sA (sA σ 0 12 0 (nI 0)) 0 12 1 (nI 0)) 0 12 2 (nI 0)) 0 12 3 (nI 0)) 0 12 4 (nI 0)) 0 12 5 (nI 0)) 0 12 6 (nI 0)) 0 12 0 (nI 1)) q q2 A := hC.scratch (by repeat (first | exact sameX.rf | refine sameX.sI ?_ (by first | rfl | exact Or.inl rfl | exact Or.inr rfl | trivial | decide | omega | simp) _ | refine sameX.sA ?_ (by first | rfl | exact Or.inl rfl | exact Or.inr rfl | trivial | decide | omega | simp) _ _ | refine sameX.sL ?_ (by first | rfl | exact Or.inl rfl | exact Or.inr rfl | trivial | decide | omega | simp) _ | refine sameX.sP ?_ (by first | rfl | exact Or.inl rfl | exact Or.inr rfl | trivial | decide | omega | simp) _ | refine sameX.sB ?_ (by first | rfl | exact Or.inl rfl | exact Or.inr rfl | trivial | decide | omega | simp) _ _)) ⟨rfl, rfl⟩
  obtain ⟨σ', e1, a1, c2⟩ := C_sick17 ok (e := e) (iT (aI A)) 0 FU _ c1 (by omega) (by have := ok.1.2.2.2.1; show _ < 1000; omega) he (fun j hj => by
    simp only [mI_sI, mI_sL, mI_sP, mI_sA, mI_sB, mL_sI, mL_sL, mL_sP, mL_sA, mL_sB, mP_sI, mP_sL, mP_sP, mP_sA, mP_sB, mA_sI, mA_sL, mA_sP, mA_sAg, mA_sB, mB_sI, mB_sL, mB_sP, mB_sA, mB_sBg, mE_sI, mE_sL, mE_sP, mE_sA, mE_sB, Nat.reduceEqDiff, Nat.reduceAdd, Nat.reduceMul, Nat.reduceSub, Nat.reduceLT, Nat.reduceLeDiff, Nat.reduceDiv, Nat.reduceMod, Nat.reduceBEq, and_true, true_and, and_false, false_and, and_self, ite_true, ite_false, if_true, if_false, reduceIte, eq_self, not_true, not_false_eq_true, Bool.true_and, Bool.and_true, Bool.false_and, Bool.and_false, Bool.or_true, Bool.true_or, Bool.or_false, Bool.false_or, Bool.not_true, Bool.not_false, reduceCtorEq, upd_e, Nat.add_eq_zero_iff, Nat.add_right_cancel_iff, Nat.add_left_cancel_iff]
    show _ = nI (if j = 0 then 1 else 0)
    by_cases e0 : j = 0
    · rw [if_pos e0, if_pos e0]
    · have ej : j = 1 ∨ j = 2 ∨ j = 3 ∨ j = 4 ∨ j = 5 ∨ j = 6 := by omega
      rcases ej with rfl | rfl | rfl | rfl | rfl | rfl <;> rfl)
  refine ⟨σ', ?_, a1, c2⟩
  unfold fX5_countSickWays
  rw [hf, bd_s]
  exact e1
theorem M_sick54 (K : Mem → Int32 → Int32 → Option Mem) (x1 : Int32) {x i : Nat} (hx : x ≤ 10) (hne : ¬ nI i = x1) {f : Nat → Nat} : ∀ (j n : Nat) (τ : Mem), j ≤ 6 → j + 1 < n → (∀ i, i ≤ j → mB τ 0 34 i = nQ (f i)) → (∀ i, j < i → i < 7 → mB τ 0 34 i = nQ (stp1 x f i)) → ∃ τ', fX6_findSick_54 K 0 n τ x1 (nI i) (nI x) (nI j) = K τ' x1 (nI i + 1) ∧ (∀ i, i < 7 → mB τ' 0 34 i = nQ (stp1 x f i)) ∧ sameX (fun _ k => k = 34) τ τ' := by
  intro j
  induction j with
  | zero =>
    intro n τ h6 hn h1 h2
    obtain ⟨n, rfl⟩ : ∃ m, n = m + 2 := ⟨n - 2, by omega⟩
    refine ⟨sB τ 0 34 0 (nQ (f 0 * (10 - x))), ?_, fun i hi => ?_, by repeat (first | exact sameX.rf | refine sameX.sI ?_ (by first | rfl | exact Or.inl rfl | exact Or.inr rfl | trivial | decide | omega | simp) _ | refine sameX.sA ?_ (by first | rfl | exact Or.inl rfl | exact Or.inr rfl | trivial | decide | omega | simp) _ _ | refine sameX.sL ?_ (by first | rfl | exact Or.inl rfl | exact Or.inr rfl | trivial | decide | omega | simp) _ | refine sameX.sP ?_ (by first | rfl | exact Or.inl rfl | exact Or.inr rfl | trivial | decide | omega | simp) _ | refine sameX.sB ?_ (by first | rfl | exact Or.inl rfl | exact Or.inr rfl | trivial | decide | omega | simp) _ _)⟩
    · rw [fX6_findSick_54.eq_2, if_neg (show ¬ nI 0 < 0 by decide), if_neg hne, gd_in (show 0 < 7 by decide) (by decide), if_pos (show nI 0 = 0 from rfl), gd_in (show 0 < 7 by decide) (by decide), clampN (by decide), h1 0 (Nat.le_refl 0), ten_sub hx, toQ (by omega), nQ_mul, q0, nQ_add, stp_s, fX6_findSick_54.eq_2, if_pos (show nI 0 + -1 < 0 by decide)]
      rfl
    · rw [mB_sBg, if_pos ⟨rfl, rfl⟩, updL_e]
      by_cases e : i = 0
      · rw [if_pos e, e]; rfl
      · rw [if_neg e]; exact h2 i (by omega) hi
  | succ j ih =>
    intro n τ h6 hn h1 h2
    obtain ⟨n, rfl⟩ : ∃ m, n = m + 1 := ⟨n - 1, by omega⟩
    obtain ⟨τ', e1, a1, s1⟩ := ih n (sB τ 0 34 (j + 1) (nQ (f (j + 1) * (10 - x) + f j * x))) (by omega) (by omega) (fun i hi => by rw [mB_sBg, if_pos ⟨rfl, rfl⟩, updL_e, if_neg (by omega)]; exact h1 i (by omega)) (fun i hi hi7 => by
      rw [mB_sBg, if_pos ⟨rfl, rfl⟩, updL_e]
      by_cases e : i = j + 1
      · rw [if_pos e, e]; rfl
      · rw [if_neg e]; exact h2 i (by omega) hi7)
    refine ⟨τ', ?_, a1, sameX.tr (by repeat (first | exact sameX.rf | refine sameX.sI ?_ (by first | rfl | exact Or.inl rfl | exact Or.inr rfl | trivial | decide | omega | simp) _ | refine sameX.sA ?_ (by first | rfl | exact Or.inl rfl | exact Or.inr rfl | trivial | decide | omega | simp) _ _ | refine sameX.sL ?_ (by first | rfl | exact Or.inl rfl | exact Or.inr rfl | trivial | decide | omega | simp) _ | refine sameX.sP ?_ (by first | rfl | exact Or.inl rfl | exact Or.inr rfl | trivial | decide | omega | simp) _ | refine sameX.sB ?_ (by first | rfl | exact Or.inl rfl | exact Or.inr rfl | trivial | decide | omega | simp) _ _)) s1⟩
    rw [fX6_findSick_54.eq_2, if_neg (by rw [l0, ltN (by omega) (by omega)]; omega), if_neg hne, gd_in (by omega) (by decide), if_neg (by rw [l0, eqN (by omega) (by omega)]; omega), nI_pred, gd_in (by omega) (by decide), gd_in (by omega) (by decide), clampN (by omega), clampN (by omega), h1 (j + 1) (Nat.le_refl _), h1 j (by omega), ten_sub hx, toQ (by omega), toQ (by omega), nQ_mul, nQ_mul, nQ_add, stp_s, pk_m1]
    exact e1
theorem M_sick31 {A : AS} (ok : AOK A) {e : Nat} {x1 : Int32} (hx1 : ∀ i, i < 6 → ((nI i = x1) ↔ i = e)) : ∀ (d i n : Nat) (τ : Mem), MS τ A → i + d = iT (aI A) → d < n → (∀ j, j < 7 → mB τ 0 34 j = nQ (dW (iX (aI A)) e i j)) → ∃ τ', fX6_findSick_31 0 n τ x1 (nI i) = some τ' ∧ (∀ j, j < 7 → mB τ' 0 34 j = nQ (dW (iX (aI A)) e (iT (aI A)) j)) ∧ MS τ' A := by
  have hT := ok.1.2.2.2.1
  intro d
  induction d with
  | zero =>
    intro i n τ hM hi hn ha
    obtain ⟨n, rfl⟩ : ∃ m, n = m + 1 := ⟨n - 1, by omega⟩
    refine ⟨τ, ?_, ?_, hM⟩
    · rw [fX6_findSick_31.eq_2, hM.1.2.2.2.1, iteLE (by omega) (by omega), if_pos (by omega)]
    · rw [show iT (aI A) = i by omega]; exact ha
  | succ d ih =>
    intro i n τ hM hi hn ha
    obtain ⟨n, rfl⟩ : ∃ m, n = m + 1 := ⟨n - 1, by omega⟩
    have hx := (ok.1.2.2.2.2.2.1 i (by omega)).2
    have e0 : fX6_findSick_31 0 (n + 1) τ x1 (nI i) = fX6_findSick_54 (fX6_findSick_31 0 n) 0 FU τ x1 (nI i) (nI (iX (aI A) i)) (nI 6) := by
      rw [fX6_findSick_31.eq_2, hM.1.2.2.2.1, iteLE (by omega) (by omega), if_neg (by omega), show (2 : Int32) = nI 2 from rfl, pk_mul, l1, nI_add, gd_in (by omega) (by decide), clampN (by omega), hM.1.2.2.2.2.2.2.1 i (by omega)]
      rfl
    rw [e0]
    by_cases ee : i = e
    · obtain ⟨τ', e1, a1, c1⟩ := ih (i + 1) n τ hM (by omega) (by omega) (fun j hj => by rw [ha j hj, dW_s, if_pos ee])
      refine ⟨τ', ?_, a1, c1⟩
      obtain ⟨m, hm⟩ : ∃ m, FU = m + 1 := ⟨999, rfl⟩
      rw [hm, fX6_findSick_54.eq_2, if_neg (show ¬ nI 6 < 0 by decide), if_pos ((hx1 i (by omega)).mpr ee), nI_1]
      exact e1
    · obtain ⟨τ1, e1, a1, s1⟩ := M_sick54 (fX6_findSick_31 0 n) x1 (i := i) hx (fun q => ee ((hx1 i (by omega)).mp q)) 6 FU τ (Nat.le_refl 6) (by decide) (fun j hj => ha j (by omega)) (fun j h1 h2 => by omega)
      have c1 : MS τ1 A := hM.scratch (s1.mono (fun o k h => by omega))
      obtain ⟨τ', e2, a2, c2⟩ := ih (i + 1) n τ1 c1 (by omega) (by omega) (fun j hj => by rw [a1 j hj, dW_s, if_neg ee])
      refine ⟨τ', ?_, a2, c2⟩
      refine Eq.trans e1 ?_
      rw [nI_1]
      exact e2
theorem M_sick {τ : Mem} {A : AS} (ok : AOK A) (hM : MS τ A) {e : Nat} {x1 : Int32} (hx1 : ∀ i, i < 6 → ((nI i = x1) ↔ i = e)) : ∃ τ', fX6_findSick τ 0 x1 = some τ' ∧ (∀ j, j < 7 → mB τ' 0 34 j = nQ (dW (iX (aI A)) e (iT (aI A)) j)) ∧ MS τ' A := by
  obtain ⟨m, hm⟩ : ∃ m, FU = m + 8 := ⟨992, rfl⟩
  have hf : fX6_findSick τ 0 x1 = fX6_findSick_31 0 FU (sB (sB (sB (sB (sB (sB (sB τ 0 34 0 1) 0 34 1 0) 0 34 2 0) 0 34 3 0) 0 34 4 0) 0 34 5 0) 0 34 6 0) x1 (nI 0) := by
    have h2 : fX6_findSick_2 0 (m + 8) τ x1 (nI 0) = fX6_findSick_31 0 FU (sB (sB (sB (sB (sB (sB (sB τ 0 34 0 1) 0 34 1 0) 0 34 2 0) 0 34 3 0) 0 34 4 0) 0 34 5 0) 0 34 6 0) x1 (nI 0) := by
      simp (disch := omega) only [fX6_findSick_2, stp_s, bd_s, bd2_s, gd_t, gd_in, clampN, fa_lit, ofN, nI_add, pk_mul, leN, ltN, eqN, eqNg, gNeq, gNlt, gNle, ltNg, leNg, gg, mI_sI, mI_sL, mI_sP, mI_sA, mI_sB, mL_sI, mL_sL, mL_sP, mL_sA, mL_sB, mP_sI, mP_sL, mP_sP, mP_sA, mP_sB, mA_sI, mA_sL, mA_sP, mA_sAg, mA_sB, mB_sI, mB_sL, mB_sP, mB_sA, mB_sBg, mE_sI, mE_sL, mE_sP, mE_sA, mE_sB, Nat.reduceEqDiff, Nat.reduceAdd, Nat.reduceMul, Nat.reduceSub, Nat.reduceLT, Nat.reduceLeDiff, Nat.reduceDiv, Nat.reduceMod, Nat.reduceBEq, and_true, true_and, and_false, false_and, and_self, ite_true, ite_false, if_true, if_false, reduceIte, eq_self, not_true, not_false_eq_true, Bool.true_and, Bool.and_true, Bool.false_and, Bool.and_false, Bool.or_true, Bool.true_or, Bool.or_false, Bool.false_or, Bool.not_true, Bool.not_false, reduceCtorEq, upd_e, Nat.add_eq_zero_iff, Nat.add_right_cancel_iff, Nat.add_left_cancel_iff, decide_true, decide_false, Bool.false_eq_true, decide_eq_true_eq]
    rw [← h2, ← hm]
    rfl
  have c1 : MS (sB (sB (sB (sB (sB (sB (sB τ 0 34 0 1) 0 34 1 0) 0 34 2 0) 0 34 3 0) 0 34 4 0) 0 34 5 0) 0 34 6 0) A := hM.scratch (by repeat (first | exact sameX.rf | refine sameX.sI ?_ (by first | rfl | exact Or.inl rfl | exact Or.inr rfl | trivial | decide | omega | simp) _ | refine sameX.sA ?_ (by first | rfl | exact Or.inl rfl | exact Or.inr rfl | trivial | decide | omega | simp) _ _ | refine sameX.sL ?_ (by first | rfl | exact Or.inl rfl | exact Or.inr rfl | trivial | decide | omega | simp) _ | refine sameX.sP ?_ (by first | rfl | exact Or.inl rfl | exact Or.inr rfl | trivial | decide | omega | simp) _ | refine sameX.sB ?_ (by first | rfl | exact Or.inl rfl | exact Or.inr rfl | trivial | decide | omega | simp) _ _))
  obtain ⟨τ', e1, a1, c2⟩ := M_sick31 ok hx1 (iT (aI A)) 0 FU _ c1 (by omega) (by have := ok.1.2.2.2.1; show _ < 1000; omega) (fun j hj => by
    simp only [mB_sBg, updL_e, and_self, if_true, true_and]
    show _ = nQ (if j = 0 then 1 else 0)
    have ej : j = 0 ∨ j = 1 ∨ j = 2 ∨ j = 3 ∨ j = 4 ∨ j = 5 ∨ j = 6 := by omega
    rcases ej with rfl | rfl | rfl | rfl | rfl | rfl | rfl <;> rfl)
  exact ⟨τ', hf.trans e1, a1, c2⟩
theorem op_well {σ τ : Mem} (h : Rel σ τ) (x1 : Int32) (x2 : Int32) (x3 : Int32) : ∃ (r : Int64) (σ' : Mem) (τ' : Mem), fX5_well σ 0 x1 x2 x3 = some (r, σ') ∧ fX6_well τ 0 x1 x2 x3 = some (r, τ') ∧ Rel σ' τ' := by
  obtain ⟨A, q, q2, ok, hC, hM⟩ := id h
  have hP1 : mP σ 0 1 = q := hC.1.2.2.2.2.1
  have hI := hC.2.1
  have hT := ok.1.2.2.2.1
  rcases ix3 x1 (n := iT (aI A)) (by omega) with hx | ⟨t, ht, rfl⟩
  · refine ⟨-1, σ, τ, ?_, ?_, h⟩
    · unfold fX5_well; rw [hP1, C_hasT_no hI hx]; rfl
    · unfold fX6_well; rw [M_isT_no hM.1 ok.1 hx]; rfl
  unfold fX5_well fX6_well
  rw [hP1, C_hasT_yes hI ok.1 ht, M_isT_yes hM.1 ok.1 ht, bd_s, bd_s, if_neg (show ¬ (1 : Int32) = 0 by decide), if_neg (show ¬ (1 : Int32) = 0 by decide)]
  rcases pk_rng x2 (a := 0) (b := 6) (by decide) (by decide) with hy | ⟨s, -, hs, rfl⟩
  · refine ⟨-1, σ, τ, ?_, ?_, h⟩
    · rcases hy with hy | hy
      · exact if_pos hy
      · by_cases e : x2 < 0
        · exact if_pos e
        · rw [if_neg e]; exact if_pos hy
    · rw [l0, show (6 : Int32) = nI 6 from rfl, inr_no hy]; rfl
  have s0 : ¬ nI s < 0 := by rw [l0, ltN (by omega) (by omega)]; omega
  have s6 : ¬ (6 : Int32) < nI s := by rw [show (6 : Int32) = nI 6 from rfl, ltN (by omega) (by omega)]; omega
  have ein : fX6_in (nI s) 0 6 = some 1 := inr_yes (Nat.zero_le s) hs (by decide)
  rw [if_neg s0, if_neg s6, ein, bd_s, if_neg (show ¬ (1 : Int32) = 0 by decide)]
  rcases pk_rng x3 (a := 0) (b := 1) (by decide) (by decide) with hy | ⟨y, -, hy, rfl⟩
  · refine ⟨-1, σ, τ, ite3 hy, ?_, h⟩
    rw [l0, l1, inr_no hy]; rfl
  have y0 : ¬ nI y < 0 := by rw [l0, ltN (by omega) (by omega)]; omega
  have y1 : nI y ≤ 1 := by rw [l1, leN (by omega) (by omega)]; omega
  have ein2 : fX6_in (nI y) 0 1 = some 1 := inr_yes (Nat.zero_le y) hy (by decide)
  rw [if_neg y0, if_pos y1, ein2, bd_s, if_neg (show ¬ (1 : Int32) = 0 by decide)]
  obtain ⟨σ', e1, a1, c1⟩ := C_sick ok hC ht
  obtain ⟨τ1, e2, a2, m1⟩ := M_sick ok hM (e := t) (x1 := nI t) (fun i hi => by rw [eqN (by omega) (by omega)])
  obtain ⟨τ2, e3, a3, m2⟩ := M_sick ok m1 (e := 99) (x1 := -9) (fun i hi => ⟨fun q => absurd q (neg9 (by omega)), fun q => by omega⟩)
  have hX := (ok.1.2.2.2.2.2.1 t ht).2
  have hs7 : s < 7 := by omega
  have hall := dW_all (X := iX (aI A)) (e := t) (by omega) (iT (aI A)) (by omega) s
  rw [if_pos ht] at hall
  have bnd := dW_le (X := iX (aI A)) (e := 99) (iT (aI A)) (fun i hi => (ok.1.2.2.2.2.2.1 i hi).2) s
  have p6 : 10 ^ iT (aI A) ≤ 10 ^ 6 := Nat.pow_le_pow_right (by decide) hT
  have e6 : (10 : Nat) ^ 6 = 1000000 := by decide
  rw [hall] at bnd
  have hN : (10 - iX (aI A) t) * dW (iX (aI A)) t (iT (aI A)) s ≤ stp1 (iX (aI A) t) (dW (iX (aI A)) t (iT (aI A))) s := by
    rw [Nat.mul_comm]
    cases s with
    | zero => exact Nat.le_refl _
    | succ s => exact Nat.le_add_right _ _
  have key : ∃ (r : Int64), fX5_well_86 0 σ' (nI y) (nI ((10 - iX (aI A) t) * dW (iX (aI A)) t (iT (aI A)) s)) (nI (stp1 (iX (aI A) t) (dW (iX (aI A)) t (iT (aI A))) s - (10 - iX (aI A) t) * dW (iX (aI A)) t (iT (aI A)) s)) = some (r, σ') ∧ (if lg_cmp (nQ (dW (iX (aI A)) 99 (iT (aI A)) s)) 0 = 0 then some ((-9 : Int64), τ2) else bd (fX6_share (nQ (dW (iX (aI A)) t (iT (aI A)) s * (10 - iX (aI A) t))) (nQ (dW (iX (aI A)) 99 (iT (aI A)) s)) (nI y)) fun r20 => some (r20, τ2)) = some (r, τ2) := by
    unfold fX5_well_86
    rw [nI_add, Nat.add_sub_cancel' hN, hall, cmp_0 (by omega), l0, iteE (by omega) (by omega)]
    by_cases ez : stp1 (iX (aI A) t) (dW (iX (aI A)) t (iT (aI A))) s = 0
    · exact ⟨-9, by rw [if_pos ez], by rw [if_pos ez, if_pos rfl]⟩
    · obtain ⟨v, v1, v2⟩ := share_ok (N := (10 - iX (aI A) t) * dW (iX (aI A)) t (iT (aI A)) s) (D := stp1 (iX (aI A) t) (dW (iX (aI A)) t (iT (aI A))) s) (by omega) (by omega) (by omega) (nI y)
      refine ⟨v.toInt64, ?_, ?_⟩
      · rw [if_neg ez, v1, bd_s]
      · rw [if_neg ez, if_neg (show ¬ (1 : Int32) = nI 0 by decide), Nat.mul_comm (dW (iX (aI A)) t (iT (aI A)) s), v2, bd_s]
  obtain ⟨r, k1, k2⟩ := key
  refine ⟨r, σ', τ2, ?_, ?_, A, q, q2, ok, c1, m2⟩
  · rw [e1, bd_s, gd_in (show t < 6 by omega) (by decide), gd_in hs7 (by decide), c1.1.2.2.2.2.1, clampN (by omega), clampN (by omega), c1.2.1.2.2.2.2.2.2.1 t ht, a1 s hs7, ten_sub hX, pk_mul, l0, iteE (by omega) (by omega)]
    cases s with
    | zero =>
      rw [if_pos rfl, ← k1]
      refine congrArg (fun z => fX5_well_86 0 σ' (nI y) (nI ((10 - iX (aI A) t) * dW (iX (aI A)) t (iT (aI A)) 0)) (nI z)) ?_
      show 0 = dW (iX (aI A)) t (iT (aI A)) 0 * (10 - iX (aI A) t) - (10 - iX (aI A) t) * dW (iX (aI A)) t (iT (aI A)) 0
      rw [Nat.mul_comm, Nat.sub_self]
    | succ s =>
      rw [if_neg (by omega), gd_in (show t < 6 by omega) (by decide), nI_pred, gd_in (show s < 7 by omega) (by decide), clampN (by omega), a1 s (by omega), pk_mul, ← k1]
      refine congrArg (fun z => fX5_well_86 0 σ' (nI y) (nI ((10 - iX (aI A) t) * dW (iX (aI A)) t (iT (aI A)) (s + 1))) (nI z)) ?_
      show iX (aI A) t * dW (iX (aI A)) t (iT (aI A)) s = dW (iX (aI A)) t (iT (aI A)) (s + 1) * (10 - iX (aI A) t) + dW (iX (aI A)) t (iT (aI A)) s * iX (aI A) t - (10 - iX (aI A) t) * dW (iX (aI A)) t (iT (aI A)) (s + 1)
      rw [Nat.mul_comm (10 - iX (aI A) t), Nat.add_sub_cancel_left, Nat.mul_comm]
  · rw [e2, bd_s, gd_in hs7 (by decide), show (2 : Int32) = nI 2 from rfl, pk_mul, show (1 : Int32) = nI 1 from rfl, nI_add, gd_in (show 2 * t + 1 < 12 by omega) (by decide), e3, bd_s, gd_in hs7 (by decide), clampN (by omega), clampN (by omega), a2 s hs7, a3 s hs7, m1.1.2.2.2.2.2.2.1 t ht, ten_sub hX, toQ (by omega), nQ_mul]
    exact k2
