/-! plan, the call -/
theorem C_ntY {σ : Mem} {q q2 : Nat} {A : AS} (ok : AOK A) (hC : CSq σ q q2 A) {x : Int32} (h : x = -9 ∨ ∃ t, t < iT (aI A) ∧ x = nI t) : fX5_isNoneOrTraveller σ 0 x = some 1 := by
  have hT := ok.1.2.2.2.1
  unfold fX5_isNoneOrTraveller
  rcases h with h | ⟨t, ht, rfl⟩
  · rw [if_pos h]
  · rw [if_neg (neg9 (by omega)), hC.1.2.2.2.2.1, C_hasT_yes hC.2.1 ok.1 ht, bd_s, if_neg (by decide)]
theorem C_ntN {σ : Mem} {q q2 : Nat} {A : AS} (hC : CSq σ q q2 A) {x : Int32} (h0 : ¬ x = -9) (hx : x < 0 ∨ nI (iT (aI A)) ≤ x) : fX5_isNoneOrTraveller σ 0 x = some 0 := by
  unfold fX5_isNoneOrTraveller
  rw [if_neg h0, hC.1.2.2.2.2.1, C_hasT_no hC.2.1 hx, bd_s, if_pos rfl]
theorem nt3 {A : AS} (ok : AOK A) (x : Int32) : (x = -9 ∨ ∃ t, t < iT (aI A) ∧ x = nI t) ∨ (¬ x = -9 ∧ (x < 0 ∨ nI (iT (aI A)) ≤ x)) := by
  have hT := ok.1.2.2.2.1
  by_cases h : x = -9
  · exact Or.inl (Or.inl h)
  · rcases ix3 x (n := iT (aI A)) (by omega) with e | e
    · exact Or.inr ⟨h, e⟩
    · exact Or.inl (Or.inr e)
theorem C_plan3 {σ : Mem} {q q2 : Nat} {A : AS} (ok : AOK A) (hC : CSq σ q q2 A) {p : Nat → Nat} (hp : ∀ t, t < iT (aI A) → p t < iR (aI A)) (h1 : ∀ k, k < 3 → mA σ 6 1 k = nI (bs6 (mkR (iT (aI A)) p k))) (x2 : Int32) : ∃ σ', fX5_plan_30 0 FU σ x2 0 0 = (if x2 = -9 then some (nI (sumR (fun r => vT (aI A) (mkR (iT (aI A)) p r)) 0 (iR (aI A))), σ') else gd (inb x2 6) (some (mA σ' 6 0 x2.toNatClampNeg, σ'))) ∧ CSq σ' q q2 A ∧ ∀ t, t < iT (aI A) → mA σ' 6 0 t = nI (sdT (aI A) (mkR (iT (aI A)) p (p t)) t) := by
  have hT := ok.1.2.2.2.1
  have hR := ok.1.2.1
  have hq := hC.q
  obtain ⟨m, hm⟩ : ∃ m, FU = m + 1 + 1 + 1 + 1 := ⟨996, rfl⟩
  obtain ⟨σ1, e1, c1, a1, b1, s1⟩ := C_run ok hC (Mk := mkR (iT (aI A)) p 0) mkR_lt
  obtain ⟨σ2, e2, c2, a2, b2, s2⟩ := C_run ok c1 (Mk := mkR (iT (aI A)) p 1) mkR_lt
  obtain ⟨σ3, e3, c3, a3, b3, s3⟩ := C_run ok c2 (Mk := mkR (iT (aI A)) p 2) mkR_lt
  have h11 : mA σ1 6 1 1 = nI (bs6 (mkR (iT (aI A)) p 1)) := by rw [(s1 6 1 (by omega)).2.2.2.1]; exact h1 1 (by decide)
  have h12 : mA σ2 6 1 2 = nI (bs6 (mkR (iT (aI A)) p 2)) := by rw [(s2 6 1 (by omega)).2.2.2.1, (s1 6 1 (by omega)).2.2.2.1]; exact h1 2 (by decide)
  have hno : ∀ k, iR (aI A) ≤ k → vT (aI A) (mkR (iT (aI A)) p k) = 0 := fun k hk => vT_none (fun t => by
    cases e : mkR (iT (aI A)) p k t
    · rfl
    · have := mkR_t.mp e
      have := hp t this.1
      omega)
  have hsum : vT (aI A) (mkR (iT (aI A)) p 0) + vT (aI A) (mkR (iT (aI A)) p 1) + vT (aI A) (mkR (iT (aI A)) p 2) = sumR (fun r => vT (aI A) (mkR (iT (aI A)) p r)) 0 (iR (aI A)) := by
    have e : iR (aI A) = 1 ∨ iR (aI A) = 2 ∨ iR (aI A) = 3 := by omega
    rcases e with e | e | e
    · rw [hno 1 (by omega), hno 2 (by omega), e]; rfl
    · rw [hno 2 (by omega), e]; exact (Nat.add_assoc _ _ _).trans rfl
    · rw [e]; exact (Nat.add_assoc _ _ _).trans rfl
  refine ⟨σ3, ?_, c3, fun t ht => ?_⟩
  · rw [hm, fX5_plan_30.eq_2, if_neg (show ¬ (3 : Int32) ≤ 0 by decide), l0, gd_in (show 0 < 3 by decide) (by decide), clampN (by decide), hC.1.2.2.2.1, hC.1.2.2.2.2.1, h1 0 (by decide), e1, bd2_s, nI_1, nI_add]
    rw [fX5_plan_30.eq_2, show (3 : Int32) = nI 3 from rfl, iteLE (by decide) (by decide), if_neg (by decide), gd_in (show 0 + 1 < 3 by decide) (by decide), clampN (by decide), c1.1.2.2.2.1, c1.1.2.2.2.2.1, h11, e2, bd2_s, nI_1, nI_add]
    rw [fX5_plan_30.eq_2, show (3 : Int32) = nI 3 from rfl, iteLE (by decide) (by decide), if_neg (by decide), gd_in (show 0 + 1 + 1 < 3 by decide) (by decide), clampN (by decide), c2.1.2.2.2.1, c2.1.2.2.2.2.1, h12, e3, bd2_s, nI_1, nI_add]
    rw [fX5_plan_30.eq_2, show (3 : Int32) = nI 3 from rfl, iteLE (by decide) (by decide), if_pos (by decide), c3.1.2.2.2.1, Nat.zero_add, hsum]
  · have hpt := hp t ht
    have ht6 : t < 6 := by omega
    have e : p t = 0 ∨ p t = 1 ∨ p t = 2 := by omega
    have hf : ∀ k, ¬ p t = k → mkR (iT (aI A)) p k t = false := fun k hk => by
      cases e : mkR (iT (aI A)) p k t
      · rfl
      · exact absurd (mkR_t.mp e).2 hk
    rcases e with e | e | e
    · rw [e, b3 t ht6 (hf 2 (by omega)), b2 t ht6 (hf 1 (by omega)), a1 t (mkR_t.mpr ⟨ht, e⟩)]
    · rw [e, b3 t ht6 (hf 2 (by omega)), a2 t (mkR_t.mpr ⟨ht, e⟩)]
    · rw [e, a3 t (mkR_t.mpr ⟨ht, e⟩)]
theorem M_plan_l {A : AS} (ok : AOK A) {v : Nat} (hv : v < 2147483648) (x2 : Int32) : ∀ (r i n : Nat) (τ : Mem), i + r = iT (aI A) → r < n → MS τ A → (∀ t, t < i → dg v t < iR (aI A) ∧ mA τ 0 30 t = nI (dg v t)) → ∃ τ', MS τ' A ∧ ((∀ t, t < iT (aI A) → dg v t < iR (aI A)) → fX6_plan_41 0 n τ x2 (nI (v / 10 ^ i)) (nI i) = bd2 (fX6_goes τ' 0) (fun r15 σ16 => if x2 = -9 then some (r15, σ16) else gd (inb x2 6) (some (mA σ16 0 33 x2.toNatClampNeg, σ16))) ∧ ∀ t, t < iT (aI A) → mA τ' 0 30 t = nI (dg v t)) ∧ (¬ (∀ t, t < iT (aI A) → dg v t < iR (aI A)) → fX6_plan_41 0 n τ x2 (nI (v / 10 ^ i)) (nI i) = some (-1, τ')) := by
  have hT := ok.1.2.2.2.1
  have hR := ok.1.2.1
  intro r
  induction r with
  | zero =>
    intro i n τ hi hn hM ha
    obtain ⟨n, rfl⟩ : ∃ m, n = m + 1 := ⟨n - 1, by omega⟩
    have ei : i = iT (aI A) := by omega
    subst ei
    refine ⟨τ, hM, fun _ => ⟨?_, fun t ht => (ha t ht).2⟩, fun h => absurd (fun t ht => (ha t ht).1) h⟩
    rw [fX6_plan_41.eq_2, hM.1.2.2.2.1, iteLE (by omega) (by omega), if_pos (Nat.le_refl _)]
  | succ r ih =>
    intro i n τ hi hn hM ha
    obtain ⟨n, rfl⟩ : ∃ m, n = m + 1 := ⟨n - 1, by omega⟩
    have hd := Nat.div_le_self v (10 ^ i)
    have erem : nI (v / 10 ^ i) - nI (v / 10 ^ i) / (10 : Int32) * (10 : Int32) = nI (dg v i) := remN (by omega) (by decide) (by decide)
    have ediv : nI (v / 10 ^ i) / (10 : Int32) = nI (v / 10 ^ (i + 1)) := by
      rw [show (10 : Int32) = nI 10 from rfl, pk_div (by omega) (by decide) (by decide), dg_s]
    have hdg : dg v i < 10 := Nat.mod_lt (v / 10 ^ i) (by decide)
    have hM1 : MS (sA τ 0 30 i (nI (dg v i))) A := hM.scratch (by repeat (first | exact sameX.rf | refine sameX.sI ?_ (by first | rfl | exact Or.inl rfl | exact Or.inr rfl | trivial | decide | omega | simp) _ | refine sameX.sA ?_ (by first | rfl | exact Or.inl rfl | exact Or.inr rfl | trivial | decide | omega | simp) _ _ | refine sameX.sL ?_ (by first | rfl | exact Or.inl rfl | exact Or.inr rfl | trivial | decide | omega | simp) _ | refine sameX.sP ?_ (by first | rfl | exact Or.inl rfl | exact Or.inr rfl | trivial | decide | omega | simp) _ | refine sameX.sB ?_ (by first | rfl | exact Or.inl rfl | exact Or.inr rfl | trivial | decide | omega | simp) _ _))
    have h30 : mA (sA τ 0 30 i (nI (dg v i))) 0 30 i = nI (dg v i) := by simp only [mI_sI, mI_sL, mI_sP, mI_sA, mI_sB, mL_sI, mL_sL, mL_sP, mL_sA, mL_sB, mP_sI, mP_sL, mP_sP, mP_sA, mP_sB, mA_sI, mA_sL, mA_sP, mA_sAg, mA_sB, mB_sI, mB_sL, mB_sP, mB_sA, mB_sBg, mE_sI, mE_sL, mE_sP, mE_sA, mE_sB, Nat.reduceEqDiff, Nat.reduceAdd, Nat.reduceMul, Nat.reduceSub, Nat.reduceLT, Nat.reduceLeDiff, Nat.reduceDiv, Nat.reduceMod, Nat.reduceBEq, and_true, true_and, and_false, false_and, and_self, ite_true, ite_false, if_true, if_false, reduceIte, eq_self, not_true, not_false_eq_true, Bool.true_and, Bool.and_true, Bool.false_and, Bool.and_false, Bool.or_true, Bool.true_or, Bool.or_false, Bool.false_or, Bool.not_true, Bool.not_false, reduceCtorEq, upd_e, Nat.add_eq_zero_iff, Nat.add_right_cancel_iff, Nat.add_left_cancel_iff]
    rw [fX6_plan_41.eq_2, hM.1.2.2.2.1, iteLE (by omega) (by omega), if_neg (by omega), erem, ediv, gd_in (show i < 6 by omega) (by decide), clampN (by omega), stp_s, gd_in (show i < 6 by omega) (by decide), h30, nI_1]
    by_cases e : dg v i < iR (aI A)
    · rw [M_isR_yes hM1.1 ok.1 e, bd_s, if_neg (show ¬ (1 : Int32) = 0 by decide)]
      exact ih (i + 1) n _ (by omega) (by omega) hM1 (fun t ht => by
        simp only [mI_sI, mI_sL, mI_sP, mI_sA, mI_sB, mL_sI, mL_sL, mL_sP, mL_sA, mL_sB, mP_sI, mP_sL, mP_sP, mP_sA, mP_sB, mA_sI, mA_sL, mA_sP, mA_sAg, mA_sB, mB_sI, mB_sL, mB_sP, mB_sA, mB_sBg, mE_sI, mE_sL, mE_sP, mE_sA, mE_sB, Nat.reduceEqDiff, Nat.reduceAdd, Nat.reduceMul, Nat.reduceSub, Nat.reduceLT, Nat.reduceLeDiff, Nat.reduceDiv, Nat.reduceMod, Nat.reduceBEq, and_true, true_and, and_false, false_and, and_self, ite_true, ite_false, if_true, if_false, reduceIte, eq_self, not_true, not_false_eq_true, Bool.true_and, Bool.and_true, Bool.false_and, Bool.and_false, Bool.or_true, Bool.true_or, Bool.or_false, Bool.false_or, Bool.not_true, Bool.not_false, reduceCtorEq, upd_e, Nat.add_eq_zero_iff, Nat.add_right_cancel_iff, Nat.add_left_cancel_iff]
        by_cases et : t = i
        · rw [if_pos et, et]; exact ⟨e, rfl⟩
        · rw [if_neg et]; exact ha t (by omega))
    · rw [M_isR_no hM1.1 ok.1 (Or.inr (by rw [leN (by omega) (by omega)]; omega)), bd_s, if_pos rfl]
      exact ⟨_, hM1, fun h => absurd (h i (by omega)) e, fun _ => rfl⟩
theorem op_plan {σ τ : Mem} (h : Rel σ τ) (x1 : Int32) (x2 : Int32) : ∃ (r : Int32) (σ' : Mem) (τ' : Mem), fX5_plan σ 0 x1 x2 = some (r, σ') ∧ fX6_plan τ 0 x1 x2 = some (r, τ') ∧ Rel σ' τ' := by
  obtain ⟨A, q, q2, ok, hC, hM⟩ := id h
  have hT := ok.1.2.2.2.1
  have hR := ok.1.2.1
  have hpw : 10 ^ iT (aI A) ≤ 10 ^ 6 := Nat.pow_le_pow_right (by decide) hT
  have hpw0 : 0 < 10 ^ iT (aI A) := Nat.pow_pos (by decide)
  have hP7 := hC.1.2.2.2.1
  have hP1 := hC.1.2.2.2.2.1
  unfold fX5_plan
  rcases nt3 ok x2 with h2 | ⟨h9, h2⟩
  · rw [C_ntY ok hC h2, bd_s, if_neg (show ¬ (1 : Int32) = 0 by decide), hP7, hP1]
    have hm : fX6_plan τ 0 x1 x2 = fX6_plan_14 0 τ x1 x2 := by
      unfold fX6_plan
      rcases h2 with h2 | ⟨t, ht, rfl⟩
      · rw [if_pos h2]
      · rw [if_neg (neg9 (by omega)), M_isT_yes hM.1 ok.1 ht, bd_s, if_neg (by decide)]
    rw [hm]
    unfold fX6_plan_14 fX3_readFigures
    rw [hM.1.2.2.2.1, show (10 : Int32) = nI 10 from rfl, M_power (by omega), bd_s]
    by_cases h0 : x1 < 0
    · rw [in_no (by omega) (Or.inl h0), bd_s, if_pos rfl, if_neg (show ¬ 0 ≤ x1 by rw [Int32.not_le]; exact h0), bd2_s, if_pos rfl]
      exact ⟨_, _, _, rfl, rfl, h⟩
    · obtain ⟨v, hv, rfl⟩ := nI_of h0
      rw [if_pos (nI_pos' hv), fill3, bd_s]
      obtain ⟨b, σ', e1, c1, h1, h3⟩ := C_fig ok (q := q) (q2 := q2) hv (iT (aI A)) 0 FU (sA (sA (sA σ 6 1 0 0) 6 1 1 0) 6 1 2 0) (by omega) (by show _ < 1000; omega) (hC.scratch (by repeat (first | exact sameX.rf | refine sameX.sI ?_ (by first | rfl | exact Or.inl rfl | exact Or.inr rfl | trivial | decide | omega | simp) _ | refine sameX.sA ?_ (by first | rfl | exact Or.inl rfl | exact Or.inr rfl | trivial | decide | omega | simp) _ _ | refine sameX.sL ?_ (by first | rfl | exact Or.inl rfl | exact Or.inr rfl | trivial | decide | omega | simp) _ | refine sameX.sP ?_ (by first | rfl | exact Or.inl rfl | exact Or.inr rfl | trivial | decide | omega | simp) _ | refine sameX.sB ?_ (by first | rfl | exact Or.inl rfl | exact Or.inr rfl | trivial | decide | omega | simp) _ _)) ⟨rfl, rfl⟩) (fun k hk => by
        have z : bs6 (fun t => decide (t < 0) && decide (dg v t = k)) = 0 := (bs6_c (c := fun _ => false) (fun t _ => by rw [decide_eq_false (Nat.not_lt_zero t), Bool.false_and])).trans (by decide)
        rw [z]
        simp only [mI_sI, mI_sL, mI_sP, mI_sA, mI_sB, mL_sI, mL_sL, mL_sP, mL_sA, mL_sB, mP_sI, mP_sL, mP_sP, mP_sA, mP_sB, mA_sI, mA_sL, mA_sP, mA_sAg, mA_sB, mB_sI, mB_sL, mB_sP, mB_sA, mB_sBg, mE_sI, mE_sL, mE_sP, mE_sA, mE_sB, Nat.reduceEqDiff, Nat.reduceAdd, Nat.reduceMul, Nat.reduceSub, Nat.reduceLT, Nat.reduceLeDiff, Nat.reduceDiv, Nat.reduceMod, Nat.reduceBEq, and_true, true_and, and_false, false_and, and_self, ite_true, ite_false, if_true, if_false, reduceIte, eq_self, not_true, not_false_eq_true, Bool.true_and, Bool.and_true, Bool.false_and, Bool.and_false, Bool.or_true, Bool.true_or, Bool.or_false, Bool.false_or, Bool.not_true, Bool.not_false, reduceCtorEq, upd_e, Nat.add_eq_zero_iff, Nat.add_right_cancel_iff, Nat.add_left_cancel_iff]
        have e : k = 0 ∨ k = 1 ∨ k = 2 := by omega
        rcases e with rfl | rfl | rfl <;> rfl)
      rw [Nat.pow_zero, Nat.div_one] at e1
      have e1 : fX3_readFigures_19 6 FU (sA (sA (sA σ 6 1 0 0) 6 1 1 0) 6 1 2 0) q (nI v) 0 = some (nI (b2n b), σ') := e1
      rw [e1, bd2_s]
      by_cases hvp : v < 10 ^ iT (aI A)
      · obtain ⟨τ', m1, m2, m3⟩ := M_plan_l ok hv x2 (iT (aI A)) 0 FU τ (by omega) (by show _ < 1000; omega) hM (fun t ht => absurd ht (Nat.not_lt_zero t))
        rw [Nat.pow_zero, Nat.div_one] at m2 m3
        rw [in_yes (by omega) hvp, bd_s, if_neg (show ¬ (1 : Int32) = 0 by decide)]
        have hz : v / 10 ^ iT (aI A) = 0 := Nat.div_eq_of_lt hvp
        cases b with
        | false =>
          have hn : ¬ (∀ t, t < iT (aI A) → dg v t < iR (aI A)) := fun w => absurd (h1.mpr ⟨fun t _ ht => w t ht, hz⟩) (by decide)
          rw [if_pos (show nI (b2n false) = 0 from rfl)]
          exact ⟨_, _, _, rfl, m3 hn, A, q, q2, ok, c1, m1⟩
        | true =>
          have hy := (h1.mp rfl).1
          have hy : ∀ t, t < iT (aI A) → dg v t < iR (aI A) := fun t ht => hy t (Nat.zero_le t) ht
          obtain ⟨k1, k2⟩ := m2 hy
          rw [if_neg (show ¬ nI (b2n true) = 0 by decide)]
          obtain ⟨σ2, g1, g2, g3⟩ := C_plan3 ok c1 hy (h3 rfl) x2
          obtain ⟨τ2, f1, f2, f3, f4⟩ := M_goes ok hy m1 k2
          rw [g1]
          have k1 : fX6_plan_41 0 FU τ x2 (nI v) 0 = _ := k1
          rw [k1, f1, bd2_s]
          have hrel : Rel σ2 τ2 := ⟨A, q, q2, ok, g2, f4⟩
          rcases h2 with h2 | ⟨t, ht, rfl⟩
          · rw [if_pos h2, if_pos h2]
            exact ⟨_, _, _, rfl, rfl, hrel⟩
          · rw [if_neg (neg9 (by omega)), if_neg (neg9 (by omega)), gd_in (show t < 6 by omega) (by decide), gd_in (show t < 6 by omega) (by decide), clampN (by omega), g3 t ht, f2 t ht]
            exact ⟨_, _, _, rfl, rfl, hrel⟩
      · have hb : b = false := by
          cases e : b
          · rfl
          · have := (h1.mp e).2
            have := Nat.div_pos (show 10 ^ iT (aI A) ≤ v by omega) hpw0
            omega
        rw [hb, if_pos (show nI (b2n false) = 0 from rfl), in_no (by omega) (Or.inr (by rw [leN (by omega) (by omega)]; omega)), bd_s, if_pos rfl]
        exact ⟨_, _, _, rfl, rfl, A, q, q2, ok, c1, hM⟩
  · rw [C_ntN hC h9 h2, bd_s, if_pos rfl]
    unfold fX6_plan
    rw [if_neg h9, M_isT_no hM.1 ok.1 h2, bd_s, if_pos rfl]
    exact ⟨_, _, _, rfl, rfl, h⟩
