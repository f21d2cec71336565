/-! phase 2 of a day: who comes -/
theorem M_comes {I : IV} (ok : IOK I) {p : Nat → Nat} (hp : ∀ t, t < iT I → p t < 3) {L : Nat → Bool} {D : Nat → Nat} {Z : Nat → Bool} {Sl : Nat → Nat} {x : Nat} (hx : x < iT I) {τ : Mem} (hI : IMo τ I) (h30 : ∀ t, t < iT I → mA τ 0 30 t = nI (p t)) (hG : GS τ (iT I) p L D Z Sl) : ∃ τ', fX6_comes τ 0 (nI x) = some τ' ∧ GS τ' (iT I) p (fun t => L t || decide (t = x)) (fun t => if p t = p x then 0 else D t) Z Sl ∧ sameX (fun _ k => k = 31 ∨ k = 32) τ τ' := by
  have hT := ok.2.2.2.1
  obtain ⟨m, hm⟩ : ∃ m, FU = m + 1 := ⟨999, rfl⟩
  -- the one who comes has no days yet: the days are laid over at once
  have h31 : ∀ t, t < iT I → mA (sA τ 0 31 x (nI (p x))) 0 31 t = if (L t || decide (t = x)) = true then nI (p t) else -9 := fun t ht => by
    simp only [mI_sI, mI_sL, mI_sP, mI_sA, mI_sB, mL_sI, mL_sL, mL_sP, mL_sA, mL_sB, mP_sI, mP_sL, mP_sP, mP_sA, mP_sB, mA_sI, mA_sL, mA_sP, mA_sAg, mA_sB, mB_sI, mB_sL, mB_sP, mB_sA, mB_sBg, mE_sI, mE_sL, mE_sP, mE_sA, mE_sB, Nat.reduceEqDiff, Nat.reduceAdd, Nat.reduceMul, Nat.reduceSub, Nat.reduceLT, Nat.reduceLeDiff, Nat.reduceDiv, Nat.reduceMod, Nat.reduceBEq, and_true, true_and, and_false, false_and, and_self, ite_true, ite_false, if_true, if_false, reduceIte, eq_self, not_true, not_false_eq_true, Bool.true_and, Bool.and_true, Bool.false_and, Bool.and_false, Bool.or_true, Bool.true_or, Bool.or_false, Bool.false_or, Bool.not_true, Bool.not_false, reduceCtorEq, upd_e, Nat.add_eq_zero_iff, Nat.add_right_cancel_iff, Nat.add_left_cancel_iff]
    by_cases e : t = x
    · rw [if_pos e, decide_eq_true e, Bool.or_true, if_pos rfl, e]
    · rw [if_neg e, decide_eq_false e, Bool.or_false]; exact (hG t ht).1
  have hI1 : IMo (sA τ 0 31 x (nI (p x))) I := hI.keep (F := fun _ k => k = 31) (by repeat (first | exact sameX.rf | refine sameX.sI ?_ (by first | rfl | exact Or.inl rfl | exact Or.inr rfl | trivial | decide | omega | simp) _ | refine sameX.sA ?_ (by first | rfl | exact Or.inl rfl | exact Or.inr rfl | trivial | decide | omega | simp) _ _ | refine sameX.sL ?_ (by first | rfl | exact Or.inl rfl | exact Or.inr rfl | trivial | decide | omega | simp) _ | refine sameX.sP ?_ (by first | rfl | exact Or.inl rfl | exact Or.inr rfl | trivial | decide | omega | simp) _ | refine sameX.sB ?_ (by first | rfl | exact Or.inl rfl | exact Or.inr rfl | trivial | decide | omega | simp) _ _)) (fun k hk => by omega)
  have h301 : ∀ t, t < iT I → mA (sA τ 0 31 x (nI (p x))) 0 30 t = nI (p t) := fun t ht => by simp only [mI_sI, mI_sL, mI_sP, mI_sA, mI_sB, mL_sI, mL_sL, mL_sP, mL_sA, mL_sB, mP_sI, mP_sL, mP_sP, mP_sA, mP_sB, mA_sI, mA_sL, mA_sP, mA_sAg, mA_sB, mB_sI, mB_sL, mB_sP, mB_sA, mB_sBg, mE_sI, mE_sL, mE_sP, mE_sA, mE_sB, Nat.reduceEqDiff, Nat.reduceAdd, Nat.reduceMul, Nat.reduceSub, Nat.reduceLT, Nat.reduceLeDiff, Nat.reduceDiv, Nat.reduceMod, Nat.reduceBEq, and_true, true_and, and_false, false_and, and_self, ite_true, ite_false, if_true, if_false, reduceIte, eq_self, not_true, not_false_eq_true, Bool.true_and, Bool.and_true, Bool.false_and, Bool.and_false, Bool.or_true, Bool.true_or, Bool.or_false, Bool.false_or, Bool.not_true, Bool.not_false, reduceCtorEq, upd_e, Nat.add_eq_zero_iff, Nat.add_right_cancel_iff, Nat.add_left_cancel_iff]; exact h30 t ht
  -- a value of the days that fits what lies there
  have key : ∀ (r i n : Nat) (τ1 : Mem), i + r = iT I → r < n → IMo τ1 I → (∀ t, t < iT I → mA τ1 0 30 t = nI (p t)) → (∀ t, t < iT I → mA τ1 0 31 t = if (L t || decide (t = x)) = true then nI (p t) else -9) → (∀ t, t < iT I → mA τ1 0 33 t = if Z t = true then nI (Sl t) else -9) → (∀ t, t < iT I → (L t || decide (t = x)) = true → (i ≤ t → t ≠ x → mA τ1 0 32 t = nI (D t)) ∧ (t < i → mA τ1 0 32 t = nI (if p t = p x then 0 else D t))) → ∃ τ', fX6_comes_14 0 n τ1 (nI x) (nI i) = some τ' ∧ GS τ' (iT I) p (fun t => L t || decide (t = x)) (fun t => if p t = p x then 0 else D t) Z Sl ∧ sameX (fun _ k => k = 32) τ1 τ' := by
    intro r
    induction r with
    | zero =>
      intro i n τ1 hi hn hI1 a30 a31 a33 a32
      obtain ⟨n, rfl⟩ : ∃ m, n = m + 1 := ⟨n - 1, by omega⟩
      exact ⟨τ1, by rw [fX6_comes_14.eq_2, hI1.2.2.2.1, iteLE (by omega) (by omega), if_pos (by omega)], fun t ht => ⟨a31 t ht, fun hl => (a32 t ht hl).2 (by omega), a33 t ht⟩, sameX.rf⟩
    | succ r ih =>
      intro i n τ1 hi hn hI1 a30 a31 a33 a32
      obtain ⟨n, rfl⟩ : ∃ m, n = m + 1 := ⟨n - 1, by omega⟩
      have hiT : i < iT I := by omega
      have hpi := hp i hiT
      have hpx := hp x hx
      have step : ∀ v : Int32, ((L i || decide (i = x)) = true → v = nI (if p i = p x then 0 else D i)) → ∃ τ', fX6_comes_14 0 n (sA τ1 0 32 i v) (nI x) (nI (i + 1)) = some τ' ∧ GS τ' (iT I) p (fun t => L t || decide (t = x)) (fun t => if p t = p x then 0 else D t) Z Sl ∧ sameX (fun _ k => k = 32) τ1 τ' := fun v hv => by
        obtain ⟨τ', z1, z2, z3⟩ := ih (i + 1) n (sA τ1 0 32 i v) (by omega) (by omega) (hI1.keep (F := fun _ k => k = 32) (by repeat (first | exact sameX.rf | refine sameX.sI ?_ (by first | rfl | exact Or.inl rfl | exact Or.inr rfl | trivial | decide | omega | simp) _ | refine sameX.sA ?_ (by first | rfl | exact Or.inl rfl | exact Or.inr rfl | trivial | decide | omega | simp) _ _ | refine sameX.sL ?_ (by first | rfl | exact Or.inl rfl | exact Or.inr rfl | trivial | decide | omega | simp) _ | refine sameX.sP ?_ (by first | rfl | exact Or.inl rfl | exact Or.inr rfl | trivial | decide | omega | simp) _ | refine sameX.sB ?_ (by first | rfl | exact Or.inl rfl | exact Or.inr rfl | trivial | decide | omega | simp) _ _)) (fun k hk => by omega)) (fun t ht => by simp only [mI_sI, mI_sL, mI_sP, mI_sA, mI_sB, mL_sI, mL_sL, mL_sP, mL_sA, mL_sB, mP_sI, mP_sL, mP_sP, mP_sA, mP_sB, mA_sI, mA_sL, mA_sP, mA_sAg, mA_sB, mB_sI, mB_sL, mB_sP, mB_sA, mB_sBg, mE_sI, mE_sL, mE_sP, mE_sA, mE_sB, Nat.reduceEqDiff, Nat.reduceAdd, Nat.reduceMul, Nat.reduceSub, Nat.reduceLT, Nat.reduceLeDiff, Nat.reduceDiv, Nat.reduceMod, Nat.reduceBEq, and_true, true_and, and_false, false_and, and_self, ite_true, ite_false, if_true, if_false, reduceIte, eq_self, not_true, not_false_eq_true, Bool.true_and, Bool.and_true, Bool.false_and, Bool.and_false, Bool.or_true, Bool.true_or, Bool.or_false, Bool.false_or, Bool.not_true, Bool.not_false, reduceCtorEq, upd_e, Nat.add_eq_zero_iff, Nat.add_right_cancel_iff, Nat.add_left_cancel_iff]; exact a30 t ht) (fun t ht => by simp only [mI_sI, mI_sL, mI_sP, mI_sA, mI_sB, mL_sI, mL_sL, mL_sP, mL_sA, mL_sB, mP_sI, mP_sL, mP_sP, mP_sA, mP_sB, mA_sI, mA_sL, mA_sP, mA_sAg, mA_sB, mB_sI, mB_sL, mB_sP, mB_sA, mB_sBg, mE_sI, mE_sL, mE_sP, mE_sA, mE_sB, Nat.reduceEqDiff, Nat.reduceAdd, Nat.reduceMul, Nat.reduceSub, Nat.reduceLT, Nat.reduceLeDiff, Nat.reduceDiv, Nat.reduceMod, Nat.reduceBEq, and_true, true_and, and_false, false_and, and_self, ite_true, ite_false, if_true, if_false, reduceIte, eq_self, not_true, not_false_eq_true, Bool.true_and, Bool.and_true, Bool.false_and, Bool.and_false, Bool.or_true, Bool.true_or, Bool.or_false, Bool.false_or, Bool.not_true, Bool.not_false, reduceCtorEq, upd_e, Nat.add_eq_zero_iff, Nat.add_right_cancel_iff, Nat.add_left_cancel_iff]; exact a31 t ht) (fun t ht => by simp only [mI_sI, mI_sL, mI_sP, mI_sA, mI_sB, mL_sI, mL_sL, mL_sP, mL_sA, mL_sB, mP_sI, mP_sL, mP_sP, mP_sA, mP_sB, mA_sI, mA_sL, mA_sP, mA_sAg, mA_sB, mB_sI, mB_sL, mB_sP, mB_sA, mB_sBg, mE_sI, mE_sL, mE_sP, mE_sA, mE_sB, Nat.reduceEqDiff, Nat.reduceAdd, Nat.reduceMul, Nat.reduceSub, Nat.reduceLT, Nat.reduceLeDiff, Nat.reduceDiv, Nat.reduceMod, Nat.reduceBEq, and_true, true_and, and_false, false_and, and_self, ite_true, ite_false, if_true, if_false, reduceIte, eq_self, not_true, not_false_eq_true, Bool.true_and, Bool.and_true, Bool.false_and, Bool.and_false, Bool.or_true, Bool.true_or, Bool.or_false, Bool.false_or, Bool.not_true, Bool.not_false, reduceCtorEq, upd_e, Nat.add_eq_zero_iff, Nat.add_right_cancel_iff, Nat.add_left_cancel_iff]; exact a33 t ht) (fun t ht hl => ⟨fun h1 h2 => by simp only [mI_sI, mI_sL, mI_sP, mI_sA, mI_sB, mL_sI, mL_sL, mL_sP, mL_sA, mL_sB, mP_sI, mP_sL, mP_sP, mP_sA, mP_sB, mA_sI, mA_sL, mA_sP, mA_sAg, mA_sB, mB_sI, mB_sL, mB_sP, mB_sA, mB_sBg, mE_sI, mE_sL, mE_sP, mE_sA, mE_sB, Nat.reduceEqDiff, Nat.reduceAdd, Nat.reduceMul, Nat.reduceSub, Nat.reduceLT, Nat.reduceLeDiff, Nat.reduceDiv, Nat.reduceMod, Nat.reduceBEq, and_true, true_and, and_false, false_and, and_self, ite_true, ite_false, if_true, if_false, reduceIte, eq_self, not_true, not_false_eq_true, Bool.true_and, Bool.and_true, Bool.false_and, Bool.and_false, Bool.or_true, Bool.true_or, Bool.or_false, Bool.false_or, Bool.not_true, Bool.not_false, reduceCtorEq, upd_e, Nat.add_eq_zero_iff, Nat.add_right_cancel_iff, Nat.add_left_cancel_iff]; rw [if_neg (by omega)]; exact (a32 t ht hl).1 (by omega) h2, fun h1 => by
          simp only [mI_sI, mI_sL, mI_sP, mI_sA, mI_sB, mL_sI, mL_sL, mL_sP, mL_sA, mL_sB, mP_sI, mP_sL, mP_sP, mP_sA, mP_sB, mA_sI, mA_sL, mA_sP, mA_sAg, mA_sB, mB_sI, mB_sL, mB_sP, mB_sA, mB_sBg, mE_sI, mE_sL, mE_sP, mE_sA, mE_sB, Nat.reduceEqDiff, Nat.reduceAdd, Nat.reduceMul, Nat.reduceSub, Nat.reduceLT, Nat.reduceLeDiff, Nat.reduceDiv, Nat.reduceMod, Nat.reduceBEq, and_true, true_and, and_false, false_and, and_self, ite_true, ite_false, if_true, if_false, reduceIte, eq_self, not_true, not_false_eq_true, Bool.true_and, Bool.and_true, Bool.false_and, Bool.and_false, Bool.or_true, Bool.true_or, Bool.or_false, Bool.false_or, Bool.not_true, Bool.not_false, reduceCtorEq, upd_e, Nat.add_eq_zero_iff, Nat.add_right_cancel_iff, Nat.add_left_cancel_iff]
          by_cases e : t = i
          · rw [if_pos e, e]; rw [e] at hl; exact hv hl
          · rw [if_neg e]; exact (a32 t ht hl).2 (by omega)⟩)
        exact ⟨τ', z1, z2, sameX.tr (by repeat (first | exact sameX.rf | refine sameX.sI ?_ (by first | rfl | exact Or.inl rfl | exact Or.inr rfl | trivial | decide | omega | simp) _ | refine sameX.sA ?_ (by first | rfl | exact Or.inl rfl | exact Or.inr rfl | trivial | decide | omega | simp) _ _ | refine sameX.sL ?_ (by first | rfl | exact Or.inl rfl | exact Or.inr rfl | trivial | decide | omega | simp) _ | refine sameX.sP ?_ (by first | rfl | exact Or.inl rfl | exact Or.inr rfl | trivial | decide | omega | simp) _ | refine sameX.sB ?_ (by first | rfl | exact Or.inl rfl | exact Or.inr rfl | trivial | decide | omega | simp) _ _)) z3⟩
      rw [fX6_comes_14.eq_2, hI1.2.2.2.1, iteLE (by omega) (by omega), if_neg (by omega), gd_in (show i < 6 by omega) (by decide), gd_in (show x < 6 by omega) (by decide), clampN (by omega), clampN (by omega), a30 x hx, gd_in (show i < 6 by omega) (by decide), gd_in (show i < 6 by omega) (by decide), stp_s, stp_s, nI_1, a31 i hiT]
      cases el : (L i || decide (i = x)) with
      | false =>
        rw [if_neg (show ¬ false = true by decide), if_neg (fun q => neg9 (show p x < 2147483648 by omega) q.symm), gd_in (show i < 6 by omega) (by decide)]
        exact step (mA τ1 0 32 i) (fun h => by rw [el] at h; exact absurd h (by decide))
      | true =>
        rw [if_pos rfl, iteE (by omega) (by omega)]
        by_cases e : p i = p x
        · rw [if_pos e]
          exact step _ (fun _ => by rw [if_pos e]; rfl)
        · rw [if_neg e, gd_in (show i < 6 by omega) (by decide)]
          exact step (mA τ1 0 32 i) (fun _ => by
            rw [if_neg e]
            exact (a32 i hiT el).1 (Nat.le_refl i) (fun q => e (by rw [q])))
  obtain ⟨τ', z1, z2, z3⟩ := key (iT I) 0 FU (sA τ 0 31 x (nI (p x))) (by omega) (by show _ < 1000; omega) hI1 h301 h31 (fun t ht => by simp only [mI_sI, mI_sL, mI_sP, mI_sA, mI_sB, mL_sI, mL_sL, mL_sP, mL_sA, mL_sB, mP_sI, mP_sL, mP_sP, mP_sA, mP_sB, mA_sI, mA_sL, mA_sP, mA_sAg, mA_sB, mB_sI, mB_sL, mB_sP, mB_sA, mB_sBg, mE_sI, mE_sL, mE_sP, mE_sA, mE_sB, Nat.reduceEqDiff, Nat.reduceAdd, Nat.reduceMul, Nat.reduceSub, Nat.reduceLT, Nat.reduceLeDiff, Nat.reduceDiv, Nat.reduceMod, Nat.reduceBEq, and_true, true_and, and_false, false_and, and_self, ite_true, ite_false, if_true, if_false, reduceIte, eq_self, not_true, not_false_eq_true, Bool.true_and, Bool.and_true, Bool.false_and, Bool.and_false, Bool.or_true, Bool.true_or, Bool.or_false, Bool.false_or, Bool.not_true, Bool.not_false, reduceCtorEq, upd_e, Nat.add_eq_zero_iff, Nat.add_right_cancel_iff, Nat.add_left_cancel_iff]; exact (hG t ht).2.2) (fun t ht hl => ⟨fun _ hne => by
    rw [decide_eq_false hne, Bool.or_false] at hl
    simp only [mI_sI, mI_sL, mI_sP, mI_sA, mI_sB, mL_sI, mL_sL, mL_sP, mL_sA, mL_sB, mP_sI, mP_sL, mP_sP, mP_sA, mP_sB, mA_sI, mA_sL, mA_sP, mA_sAg, mA_sB, mB_sI, mB_sL, mB_sP, mB_sA, mB_sBg, mE_sI, mE_sL, mE_sP, mE_sA, mE_sB, Nat.reduceEqDiff, Nat.reduceAdd, Nat.reduceMul, Nat.reduceSub, Nat.reduceLT, Nat.reduceLeDiff, Nat.reduceDiv, Nat.reduceMod, Nat.reduceBEq, and_true, true_and, and_false, false_and, and_self, ite_true, ite_false, if_true, if_false, reduceIte, eq_self, not_true, not_false_eq_true, Bool.true_and, Bool.and_true, Bool.false_and, Bool.and_false, Bool.or_true, Bool.true_or, Bool.or_false, Bool.false_or, Bool.not_true, Bool.not_false, reduceCtorEq, upd_e, Nat.add_eq_zero_iff, Nat.add_right_cancel_iff, Nat.add_left_cancel_iff]
    exact (hG t ht).2.1 hl, fun h => absurd h (Nat.not_lt_zero t)⟩)
  refine ⟨τ', ?_, z2, sameX.tr (by repeat (first | exact sameX.rf | refine sameX.sI ?_ (by first | rfl | exact Or.inl rfl | exact Or.inr rfl | trivial | decide | omega | simp) _ | refine sameX.sA ?_ (by first | rfl | exact Or.inl rfl | exact Or.inr rfl | trivial | decide | omega | simp) _ _ | refine sameX.sL ?_ (by first | rfl | exact Or.inl rfl | exact Or.inr rfl | trivial | decide | omega | simp) _ | refine sameX.sP ?_ (by first | rfl | exact Or.inl rfl | exact Or.inr rfl | trivial | decide | omega | simp) _ | refine sameX.sB ?_ (by first | rfl | exact Or.inl rfl | exact Or.inr rfl | trivial | decide | omega | simp) _ _)) (z3.mono (fun o k h => Or.inr h))⟩
  unfold fX6_comes
  rw [gd_in (show x < 6 by omega) (by decide), gd_in (show x < 6 by omega) (by decide), clampN (by omega), h30 x hx, stp_s]
  exact z1
def cB (C p : Nat → Nat) (d : Nat) : Nat → Nat → Bool
  | 0, _ => false
  | i + 1, r => cB C p d i r || (decide (C i = d) && decide (p i = r))
theorem M_g156 {A : AS} (ok : AOK A) {p : Nat → Nat} (hp : ∀ t, t < iT (aI A) → p t < 3) {L : Nat → Bool} {D : Nat → Nat} {Z : Nat → Bool} {Sl : Nat → Nat} {d : Nat} (hd : d ≤ 300) (K46 : Mem → Int32 → Int32 → Int32 → Option (Int32 × Mem)) (x1 x2 : Int32) : ∀ (r i n : Nat) (τ : Mem), i + r = iT (aI A) → r < n → IMo τ (aI A) → (∀ t, t < iT (aI A) → mA τ 0 30 t = nI (p t)) → GS τ (iT (aI A)) p (fun t => L t || (decide (t < i) && decide (iC (aI A) t = d))) (fun t => if cB (iC (aI A)) p d i (p t) = true then 0 else D t) Z Sl → ∃ τ', fX6_goes_156 K46 0 n τ x1 x2 (nI d) (nI i) = (if x1 ≤ 0 then K46 τ' x1 (x2 + 0) (nI d + 1) else bd (fX6_vinegar τ' 0 0 31 6 0) (fun r23 => K46 τ' x1 (x2 + r23) (nI d + 1))) ∧ GS τ' (iT (aI A)) p (fun t => L t || decide (iC (aI A) t = d)) (fun t => if cB (iC (aI A)) p d (iT (aI A)) (p t) = true then 0 else D t) Z Sl ∧ sameX (fun _ k => k = 31 ∨ k = 32) τ τ' := by
  have hT := ok.1.2.2.2.1
  intro r
  induction r with
  | zero =>
    intro i n τ hi hn hI h30 hG
    obtain ⟨n, rfl⟩ : ∃ m, n = m + 1 := ⟨n - 1, by omega⟩
    have ei : i = iT (aI A) := by omega
    subst ei
    refine ⟨τ, by rw [fX6_goes_156.eq_2, hI.2.2.2.1, iteLE (by omega) (by omega), if_pos (Nat.le_refl _)], hG.c (fun t ht => ?_) (fun _ _ _ => rfl) (fun _ _ => rfl) (fun _ _ _ => rfl), sameX.rf⟩
    rw [decide_eq_true ht, Bool.true_and]
  | succ r ih =>
    intro i n τ hi hn hI h30 hG
    obtain ⟨n, rfl⟩ : ∃ m, n = m + 1 := ⟨n - 1, by omega⟩
    have hiT : i < iT (aI A) := by omega
    have hc := (ok.1.2.2.2.2.2.1 i hiT).1
    rw [fX6_goes_156.eq_2, hI.2.2.2.1, iteLE (by omega) (by omega), if_neg (by omega), show (2 : Int32) = nI 2 from rfl, pk_mul, gd_in (show 2 * i < 12 by omega) (by decide), clampN (by omega), hI.2.2.2.2.2.1 i hiT, iteE (by omega) (by omega), nI_1]
    by_cases e : iC (aI A) i = d
    · rw [if_pos e]
      obtain ⟨τ1, c1, c2, c3⟩ := M_comes ok.1 hp hiT hI h30 hG
      obtain ⟨τ', z1, z2, z3⟩ := ih (i + 1) n τ1 (by omega) (by omega) (hI.keep c3 (fun k hk => by omega)) (fun t ht => by rw [(c3 0 30 (by omega)).2.2.2.1]; exact h30 t ht) (c2.c (fun t ht => by
          show (L t || (decide (t < i + 1) && decide (iC (aI A) t = d))) = ((L t || (decide (t < i) && decide (iC (aI A) t = d))) || decide (t = i))
          by_cases et : t = i
          · rw [et, decide_eq_true (show i < i + 1 by omega), decide_eq_true e, decide_eq_true rfl, Bool.true_and, Bool.or_true, Bool.or_true]
          · rw [decide_eq_false et, Bool.or_false]
            by_cases e2 : t < i
            · rw [decide_eq_true e2, decide_eq_true (show t < i + 1 by omega)]
            · rw [decide_eq_false e2, decide_eq_false (show ¬ t < i + 1 by omega)]) (fun t ht _ => by
          show (if (cB (iC (aI A)) p d i (p t) || (decide (iC (aI A) i = d) && decide (p i = p t))) = true then 0 else D t) = if p t = p i then 0 else if cB (iC (aI A)) p d i (p t) = true then 0 else D t
          rw [decide_eq_true e, Bool.true_and]
          by_cases e2 : p t = p i
          · rw [decide_eq_true e2.symm, Bool.or_true, if_pos rfl, if_pos e2]
          · rw [decide_eq_false (fun q => e2 q.symm), Bool.or_false, if_neg e2]) (fun _ _ => rfl) (fun _ _ _ => rfl))
      exact ⟨τ', by rw [c1, bd_s]; exact z1, z2, c3.tr z3⟩
    · rw [if_neg e]
      refine ih (i + 1) n τ (by omega) (by omega) hI h30 (hG.c (fun t ht => ?_) (fun t ht _ => ?_) (fun _ _ => rfl) (fun _ _ _ => rfl))
      · show (L t || (decide (t < i + 1) && decide (iC (aI A) t = d))) = (L t || (decide (t < i) && decide (iC (aI A) t = d)))
        by_cases et : t = i
        · rw [et, decide_eq_false e, Bool.and_false, Bool.and_false]
        · by_cases e2 : t < i
          · rw [decide_eq_true e2, decide_eq_true (show t < i + 1 by omega)]
          · rw [decide_eq_false e2, decide_eq_false (show ¬ t < i + 1 by omega)]
      · show (if (cB (iC (aI A)) p d i (p t) || (decide (iC (aI A) i = d) && decide (p i = p t))) = true then 0 else D t) = if cB (iC (aI A)) p d i (p t) = true then 0 else D t
        rw [decide_eq_false e, Bool.false_and, Bool.or_false]
