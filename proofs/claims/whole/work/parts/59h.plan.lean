/-! plan -/
theorem vT_none {I : IV} {Mk : Nat → Bool} (h : ∀ t, Mk t = false) : vT I Mk = 0 := by
  have h1 := (settled (I := I) (Mk := Mk) (d := 0) (fun _ => rfl) (fun e _ => any_n (fun t _ => by unfold arrB; rw [h t, Bool.false_and])) 200).2
  rw [Nat.zero_add] at h1
  unfold vT
  rw [h1]
  rfl
def dg (v t : Nat) : Nat := v / 10 ^ t % 10
theorem dg_s (v t : Nat) : v / 10 ^ t / 10 = v / 10 ^ (t + 1) := by rw [Nat.div_div_eq_div_mul, Nat.pow_succ]
theorem C_fig {q q2 : Nat} {A : AS} (ok : AOK A) {v : Nat} (hv : v < 2147483648) : ∀ (r i n : Nat) (σ : Mem), i + r = iT (aI A) → r < n → CSq σ q q2 A → (∀ k, k < 3 → mA σ 6 1 k = nI (bs6 (fun t => decide (t < i) && decide (dg v t = k)))) → ∃ (b : Bool) (σ' : Mem), fX3_readFigures_19 6 n σ q (nI (v / 10 ^ i)) (nI i) = some (nI (b2n b), σ') ∧ CSq σ' q q2 A ∧ (b = true ↔ (∀ t, i ≤ t → t < iT (aI A) → dg v t < iR (aI A)) ∧ v / 10 ^ iT (aI A) = 0) ∧ (b = true → ∀ k, k < 3 → mA σ' 6 1 k = nI (bs6 (mkR (iT (aI A)) (dg v) k))) := by
  have hT := ok.1.2.2.2.1
  have hR := ok.1.2.1
  intro r
  induction r with
  | zero =>
    intro i n σ hi hn hC ha
    obtain ⟨n, rfl⟩ : ∃ m, n = m + 1 := ⟨n - 1, by omega⟩
    have ei : i = iT (aI A) := by omega
    subst ei
    have hd := Nat.div_le_self v (10 ^ iT (aI A))
    refine ⟨decide (v / 10 ^ iT (aI A) = 0), σ, ?_, hC, ?_, fun _ => ha⟩
    · rw [fX3_readFigures_19.eq_2, hC.2.1.2.2.2.1, iteLE (by omega) (by omega), if_pos (Nat.le_refl _), l0, iteE (by omega) (by omega)]
      by_cases e : v / 10 ^ iT (aI A) = 0
      · rw [if_pos e, decide_eq_true e]; rfl
      · rw [if_neg e, decide_eq_false e]; rfl
    · rw [decide_eq_true_eq]
      exact ⟨fun h => ⟨fun t h1 h2 => by omega, h⟩, fun h => h.2⟩
  | succ r ih =>
    intro i n σ hi hn hC ha
    obtain ⟨n, rfl⟩ : ∃ m, n = m + 1 := ⟨n - 1, by omega⟩
    have hd := Nat.div_le_self v (10 ^ i)
    have hm := Nat.mod_lt (v / 10 ^ i) (show 0 < 10 by decide)
    have erem : nI (v / 10 ^ i) - nI (v / 10 ^ i) / (10 : Int32) * (10 : Int32) = nI (dg v i) := remN (by omega) (by decide) (by decide)
    have ediv : nI (v / 10 ^ i) / (10 : Int32) = nI (v / 10 ^ (i + 1)) := by
      rw [show (10 : Int32) = nI 10 from rfl, pk_div (by omega) (by decide) (by decide), dg_s]
    have hdg : dg v i < 10 := hm
    rw [fX3_readFigures_19.eq_2, hC.2.1.2.2.2.1, iteLE (by omega) (by omega), if_neg (by omega), erem, ediv]
    by_cases e : dg v i < iR (aI A)
    · rw [C_hasR_yes hC.2.1 ok.1 e, bd_s, if_neg (show ¬ (1 : Int32) = 0 by decide), gd_in (show dg v i < 3 by omega) (by decide), gd_in (show dg v i < 3 by omega) (by decide), clampN (by omega), ha _ (by omega), stp_s, nI_1]
      have eor := bs6_or (fun t => decide (t < i) && decide (dg v t = dg v i)) (show i < 6 by omega)
      rw [eor]
      obtain ⟨b, σ', e1, c1, h1, h2⟩ := ih (i + 1) n (sA σ 6 1 (dg v i) (nI (bs6 (fun j => (decide (j < i) && decide (dg v j = dg v i)) || decide (j = i))))) (by omega) (by omega) (hC.scratch (by repeat (first | exact sameX.rf | refine sameX.sI ?_ (by first | rfl | exact Or.inl rfl | exact Or.inr rfl | trivial | decide | omega | simp) _ | refine sameX.sA ?_ (by first | rfl | exact Or.inl rfl | exact Or.inr rfl | trivial | decide | omega | simp) _ _ | refine sameX.sL ?_ (by first | rfl | exact Or.inl rfl | exact Or.inr rfl | trivial | decide | omega | simp) _ | refine sameX.sP ?_ (by first | rfl | exact Or.inl rfl | exact Or.inr rfl | trivial | decide | omega | simp) _ | refine sameX.sB ?_ (by first | rfl | exact Or.inl rfl | exact Or.inr rfl | trivial | decide | omega | simp) _ _)) ⟨rfl, rfl⟩) (fun k hk => by
        simp only [mI_sI, mI_sL, mI_sP, mI_sA, mI_sB, mL_sI, mL_sL, mL_sP, mL_sA, mL_sB, mP_sI, mP_sL, mP_sP, mP_sA, mP_sB, mA_sI, mA_sL, mA_sP, mA_sAg, mA_sB, mB_sI, mB_sL, mB_sP, mB_sA, mB_sBg, mE_sI, mE_sL, mE_sP, mE_sA, mE_sB, Nat.reduceEqDiff, Nat.reduceAdd, Nat.reduceMul, Nat.reduceSub, Nat.reduceLT, Nat.reduceLeDiff, Nat.reduceDiv, Nat.reduceMod, Nat.reduceBEq, and_true, true_and, and_false, false_and, and_self, ite_true, ite_false, if_true, if_false, reduceIte, eq_self, not_true, not_false_eq_true, Bool.true_and, Bool.and_true, Bool.false_and, Bool.and_false, Bool.or_true, Bool.true_or, Bool.or_false, Bool.false_or, Bool.not_true, Bool.not_false, reduceCtorEq, upd_e, Nat.add_eq_zero_iff, Nat.add_right_cancel_iff, Nat.add_left_cancel_iff]
        by_cases ek : k = dg v i
        · rw [if_pos ek]
          refine congrArg nI (bs6_c (fun t ht => ?_))
          by_cases et : t = i
          · rw [et, decide_eq_true (show i = i from rfl), Bool.or_true, decide_eq_true (show i < i + 1 by omega), decide_eq_true ek.symm]; rfl
          · rw [decide_eq_false et, Bool.or_false, ek]
            by_cases e2 : t < i
            · rw [decide_eq_true e2, decide_eq_true (show t < i + 1 by omega)]
            · rw [decide_eq_false e2, decide_eq_false (show ¬ t < i + 1 by omega)]
        · rw [if_neg ek, ha k hk]
          refine congrArg nI (bs6_c (fun t ht => ?_))
          by_cases et : t = i
          · rw [et, decide_eq_false (show ¬ dg v i = k from fun q => ek q.symm), Bool.and_false, Bool.and_false]
          · by_cases e2 : t < i
            · rw [decide_eq_true e2, decide_eq_true (show t < i + 1 by omega)]
            · rw [decide_eq_false e2, decide_eq_false (show ¬ t < i + 1 by omega)])
      refine ⟨b, σ', e1, c1, h1.trans ⟨fun h => ⟨fun t t1 t2 => ?_, h.2⟩, fun h => ⟨fun t t1 t2 => h.1 t (by omega) t2, h.2⟩⟩, h2⟩
      by_cases et : t = i
      · rw [et]; exact e
      · exact h.1 t (by omega) t2
    · rw [C_hasR_no hC.2.1 (Or.inr (by rw [leN (by omega) (by omega)]; omega)), bd_s, if_pos rfl]
      exact ⟨false, σ, rfl, hC, ⟨fun h => absurd h (by decide), fun h => absurd (h.1 i (Nat.le_refl i) (by omega)) e⟩, fun h => absurd h (by decide)⟩
