/-! plans by numbers -/
def plN (R T j t : Nat) : Nat := j / R ^ (T - 1 - t) % R
theorem addm1 (x : Int32) : x + (-1) = x - 1 := by rw [Int32.sub_eq_add_neg]
theorem div_pow {R T i j : Nat} (h : i < T) : j / R ^ (T - (i + 1)) / R = j / R ^ (T - i) := by
  rw [show T - i = (T - (i + 1)) + 1 by omega, Nat.pow_succ, Nat.div_div_eq_div_mul]
theorem C_spread_l {q q2 : Nat} {A : AS} (ok : AOK A) {j : Nat} (hj : j < 100000) : ∀ (i n : Nat) (σ : Mem), i ≤ iT (aI A) → i < n → CSq σ q q2 A → (∀ k, k < 3 → mA σ 6 1 k = nI (bs6 (fun t => decide (i ≤ t) && mkR (iT (aI A)) (plN (iR (aI A)) (iT (aI A)) j) k t))) → ∃ σ', fX3_spread_18 6 n σ q (nI (j / iR (aI A) ^ (iT (aI A) - i))) (nI i - 1) = some σ' ∧ CSq σ' q q2 A ∧ (∀ k, k < 3 → mA σ' 6 1 k = nI (bs6 (mkR (iT (aI A)) (plN (iR (aI A)) (iT (aI A)) j) k))) ∧ sameX (fun o k => o = 6 ∧ k = 1) σ σ' := by
  have hT := ok.1.2.2.2.1
  have hR := ok.1.2.1
  intro i
  induction i with
  | zero =>
    intro n σ hi hn hC ha
    obtain ⟨n, rfl⟩ : ∃ m, n = m + 1 := ⟨n - 1, by omega⟩
    refine ⟨σ, ?_, hC, fun k hk => ?_, sameX.rf⟩
    · rw [fX3_spread_18.eq_2, if_pos (show nI 0 - 1 < 0 by decide)]
    · rw [ha k hk]
      exact congrArg nI (bs6_c (fun t _ => by rw [decide_eq_true (Nat.zero_le t), Bool.true_and]))
  | succ i ih =>
    intro n σ hi hn hC ha
    obtain ⟨n, rfl⟩ : ∃ m, n = m + 1 := ⟨n - 1, by omega⟩
    have hd := Nat.div_le_self j (iR (aI A) ^ (iT (aI A) - (i + 1)))
    have hR0 : ¬ nI (iR (aI A)) = 0 := nI_ne0 (by omega) (by omega)
    have hm := Nat.mod_lt (j / iR (aI A) ^ (iT (aI A) - (i + 1))) (show 0 < iR (aI A) by omega)
    have epl : j / iR (aI A) ^ (iT (aI A) - (i + 1)) % iR (aI A) = plN (iR (aI A)) (iT (aI A)) j i := by
      unfold plN
      rw [show iT (aI A) - 1 - i = iT (aI A) - (i + 1) by omega]
    rw [fX3_spread_18.eq_2, nI_pred, if_neg (nI_pos (by omega)), hC.2.1.2.1, if_neg (nI_nle (by omega) (by omega)), gdT hR0, remN (by omega) (by omega) (by omega), epl]
    rw [epl] at hm
    rw [gd_in (show plN (iR (aI A)) (iT (aI A)) j i < 3 by omega) (by decide), gd_in (show plN (iR (aI A)) (iT (aI A)) j i < 3 by omega) (by decide), clampN (by omega), stp_s, ha _ (show plN (iR (aI A)) (iT (aI A)) j i < 3 by omega)]
    have eor := bs6_or (fun t => decide (i + 1 ≤ t) && mkR (iT (aI A)) (plN (iR (aI A)) (iT (aI A)) j) (plN (iR (aI A)) (iT (aI A)) j i) t) (show i < 6 by omega)
    rw [eor]
    have hC1 : CSq (sA σ 6 1 (plN (iR (aI A)) (iT (aI A)) j i) (nI (bs6 (fun t => (decide (i + 1 ≤ t) && mkR (iT (aI A)) (plN (iR (aI A)) (iT (aI A)) j) (plN (iR (aI A)) (iT (aI A)) j i) t) || decide (t = i))))) q q2 A := hC.scratch (by repeat (first | exact sameX.rf | refine sameX.sI ?_ (by first | rfl | exact Or.inl rfl | exact Or.inr rfl | trivial | decide | omega | simp) _ | refine sameX.sA ?_ (by first | rfl | exact Or.inl rfl | exact Or.inr rfl | trivial | decide | omega | simp) _ _ | refine sameX.sL ?_ (by first | rfl | exact Or.inl rfl | exact Or.inr rfl | trivial | decide | omega | simp) _ | refine sameX.sP ?_ (by first | rfl | exact Or.inl rfl | exact Or.inr rfl | trivial | decide | omega | simp) _ | refine sameX.sB ?_ (by first | rfl | exact Or.inl rfl | exact Or.inr rfl | trivial | decide | omega | simp) _ _)) ⟨rfl, rfl⟩
    rw [hC1.2.1.2.1, gdT hR0, pk_div (by omega) (by omega) (by omega), div_pow (by omega), addm1]
    obtain ⟨σ', e1, c1, a1, s1⟩ := ih n _ (by omega) (by omega) hC1 (fun k hk => by
      simp only [mI_sI, mI_sL, mI_sP, mI_sA, mI_sB, mL_sI, mL_sL, mL_sP, mL_sA, mL_sB, mP_sI, mP_sL, mP_sP, mP_sA, mP_sB, mA_sI, mA_sL, mA_sP, mA_sAg, mA_sB, mB_sI, mB_sL, mB_sP, mB_sA, mB_sBg, mE_sI, mE_sL, mE_sP, mE_sA, mE_sB, Nat.reduceEqDiff, Nat.reduceAdd, Nat.reduceMul, Nat.reduceSub, Nat.reduceLT, Nat.reduceLeDiff, Nat.reduceDiv, Nat.reduceMod, Nat.reduceBEq, and_true, true_and, and_false, false_and, and_self, ite_true, ite_false, if_true, if_false, reduceIte, eq_self, not_true, not_false_eq_true, Bool.true_and, Bool.and_true, Bool.false_and, Bool.and_false, Bool.or_true, Bool.true_or, Bool.or_false, Bool.false_or, Bool.not_true, Bool.not_false, reduceCtorEq, upd_e, Nat.add_eq_zero_iff, Nat.add_right_cancel_iff, Nat.add_left_cancel_iff]
      by_cases ek : k = plN (iR (aI A)) (iT (aI A)) j i
      · rw [if_pos ek]
        refine congrArg nI (bs6_c (fun t ht => ?_))
        by_cases et : t = i
        · rw [et, decide_eq_true (show i = i from rfl), Bool.or_true, decide_eq_true (Nat.le_refl i), ek, mkR_t.mpr ⟨by omega, rfl⟩]; rfl
        · rw [decide_eq_false et, Bool.or_false, ek]
          by_cases e2 : i + 1 ≤ t
          · rw [decide_eq_true e2, decide_eq_true (show i ≤ t by omega)]
          · rw [decide_eq_false e2, decide_eq_false (show ¬ i ≤ t by omega)]
      · rw [if_neg ek, ha k hk]
        refine congrArg nI (bs6_c (fun t ht => ?_))
        by_cases et : t = i
        · rw [et]
          have : mkR (iT (aI A)) (plN (iR (aI A)) (iT (aI A)) j) k i = false := by
            cases e : mkR (iT (aI A)) (plN (iR (aI A)) (iT (aI A)) j) k i
            · rfl
            · exact absurd (mkR_t.mp e).2.symm ek
          rw [this, Bool.and_false, Bool.and_false]
        · by_cases e2 : i + 1 ≤ t
          · rw [decide_eq_true e2, decide_eq_true (show i ≤ t by omega)]
          · rw [decide_eq_false e2, decide_eq_false (show ¬ i ≤ t by omega)])
    exact ⟨σ', e1, c1, a1, sameX.tr (by repeat (first | exact sameX.rf | refine sameX.sI ?_ (by first | rfl | exact Or.inl rfl | exact Or.inr rfl | trivial | decide | omega | simp) _ | refine sameX.sA ?_ (by first | rfl | exact Or.inl rfl | exact Or.inr rfl | trivial | decide | omega | simp) _ _ | refine sameX.sL ?_ (by first | rfl | exact Or.inl rfl | exact Or.inr rfl | trivial | decide | omega | simp) _ | refine sameX.sP ?_ (by first | rfl | exact Or.inl rfl | exact Or.inr rfl | trivial | decide | omega | simp) _ | refine sameX.sB ?_ (by first | rfl | exact Or.inl rfl | exact Or.inr rfl | trivial | decide | omega | simp) _ _)) s1⟩
theorem C_spread {σ : Mem} {q q2 : Nat} {A : AS} (ok : AOK A) (hC : CSq σ q q2 A) {j : Nat} (hj : j < 100000) : ∃ σ', fX3_spread σ 6 q (nI j) = some σ' ∧ CSq σ' q q2 A ∧ (∀ k, k < 3 → mA σ' 6 1 k = nI (bs6 (mkR (iT (aI A)) (plN (iR (aI A)) (iT (aI A)) j) k))) ∧ sameX (fun o k => o = 6 ∧ k = 1) σ σ' := by
  have hT := ok.1.2.2.2.1
  have hC1 : CSq (sA (sA (sA σ 6 1 0 0) 6 1 1 0) 6 1 2 0) q q2 A := hC.scratch (by repeat (first | exact sameX.rf | refine sameX.sI ?_ (by first | rfl | exact Or.inl rfl | exact Or.inr rfl | trivial | decide | omega | simp) _ | refine sameX.sA ?_ (by first | rfl | exact Or.inl rfl | exact Or.inr rfl | trivial | decide | omega | simp) _ _ | refine sameX.sL ?_ (by first | rfl | exact Or.inl rfl | exact Or.inr rfl | trivial | decide | omega | simp) _ | refine sameX.sP ?_ (by first | rfl | exact Or.inl rfl | exact Or.inr rfl | trivial | decide | omega | simp) _ | refine sameX.sB ?_ (by first | rfl | exact Or.inl rfl | exact Or.inr rfl | trivial | decide | omega | simp) _ _)) ⟨rfl, rfl⟩
  obtain ⟨σ', e1, c1, a1, s1⟩ := C_spread_l ok hj (iT (aI A)) FU (sA (sA (sA σ 6 1 0 0) 6 1 1 0) 6 1 2 0) (Nat.le_refl _) (by show _ < 1000; omega) hC1 (fun k hk => by
    have z : bs6 (fun t => decide (iT (aI A) ≤ t) && mkR (iT (aI A)) (plN (iR (aI A)) (iT (aI A)) j) k t) = 0 := (bs6_c (c := fun _ => false) (fun t _ => by
      by_cases e : t < iT (aI A)
      · rw [decide_eq_false (show ¬ iT (aI A) ≤ t by omega), Bool.false_and]
      · unfold mkR; rw [decide_eq_false e, Bool.false_and, Bool.and_false])).trans (by decide)
    rw [z]
    simp only [mI_sI, mI_sL, mI_sP, mI_sA, mI_sB, mL_sI, mL_sL, mL_sP, mL_sA, mL_sB, mP_sI, mP_sL, mP_sP, mP_sA, mP_sB, mA_sI, mA_sL, mA_sP, mA_sAg, mA_sB, mB_sI, mB_sL, mB_sP, mB_sA, mB_sBg, mE_sI, mE_sL, mE_sP, mE_sA, mE_sB, Nat.reduceEqDiff, Nat.reduceAdd, Nat.reduceMul, Nat.reduceSub, Nat.reduceLT, Nat.reduceLeDiff, Nat.reduceDiv, Nat.reduceMod, Nat.reduceBEq, and_true, true_and, and_false, false_and, and_self, ite_true, ite_false, if_true, if_false, reduceIte, eq_self, not_true, not_false_eq_true, Bool.true_and, Bool.and_true, Bool.false_and, Bool.and_false, Bool.or_true, Bool.true_or, Bool.or_false, Bool.false_or, Bool.not_true, Bool.not_false, reduceCtorEq, upd_e, Nat.add_eq_zero_iff, Nat.add_right_cancel_iff, Nat.add_left_cancel_iff]
    have e : k = 0 ∨ k = 1 ∨ k = 2 := by omega
    rcases e with rfl | rfl | rfl <;> rfl)
  rw [Nat.sub_self, Nat.pow_zero, Nat.div_one] at e1
  refine ⟨σ', ?_, c1, a1, sameX.tr (by repeat (first | exact sameX.rf | refine sameX.sI ?_ (by first | rfl | exact Or.inl rfl | exact Or.inr rfl | trivial | decide | omega | simp) _ | refine sameX.sA ?_ (by first | rfl | exact Or.inl rfl | exact Or.inr rfl | trivial | decide | omega | simp) _ _ | refine sameX.sL ?_ (by first | rfl | exact Or.inl rfl | exact Or.inr rfl | trivial | decide | omega | simp) _ | refine sameX.sP ?_ (by first | rfl | exact Or.inl rfl | exact Or.inr rfl | trivial | decide | omega | simp) _ | refine sameX.sB ?_ (by first | rfl | exact Or.inl rfl | exact Or.inr rfl | trivial | decide | omega | simp) _ _)) s1⟩
  unfold fX3_spread
  rw [fill3, bd_s, hC1.2.1.2.2.2.1]
  exact e1
theorem M_lays_l {A : AS} (ok : AOK A) {j : Nat} (hj : j < 100000) : ∀ (i n : Nat) (τ : Mem), i ≤ iT (aI A) → i < n → MS τ A → (∀ t, i ≤ t → t < iT (aI A) → mA τ 0 30 t = nI (plN (iR (aI A)) (iT (aI A)) j t)) → ∃ τ', fX6_lays_9 0 n τ (nI (j / iR (aI A) ^ (iT (aI A) - i))) (nI i - 1) = some τ' ∧ MS τ' A ∧ ∀ t, t < iT (aI A) → mA τ' 0 30 t = nI (plN (iR (aI A)) (iT (aI A)) j t) := by
  have hT := ok.1.2.2.2.1
  have hR := ok.1.2.1
  intro i
  induction i with
  | zero =>
    intro n τ hi hn hM ha
    obtain ⟨n, rfl⟩ : ∃ m, n = m + 1 := ⟨n - 1, by omega⟩
    exact ⟨τ, by rw [fX6_lays_9.eq_2, if_pos (show nI 0 - 1 < 0 by decide)], hM, fun t ht => ha t (Nat.zero_le t) ht⟩
  | succ i ih =>
    intro n τ hi hn hM ha
    obtain ⟨n, rfl⟩ : ∃ m, n = m + 1 := ⟨n - 1, by omega⟩
    have hd := Nat.div_le_self j (iR (aI A) ^ (iT (aI A) - (i + 1)))
    have hR0 : ¬ nI (iR (aI A)) = 0 := nI_ne0 (by omega) (by omega)
    have epl : j / iR (aI A) ^ (iT (aI A) - (i + 1)) % iR (aI A) = plN (iR (aI A)) (iT (aI A)) j i := by
      unfold plN
      rw [show iT (aI A) - 1 - i = iT (aI A) - (i + 1) by omega]
    have hM1 : MS (sA τ 0 30 i (nI (plN (iR (aI A)) (iT (aI A)) j i))) A := hM.scratch (by repeat (first | exact sameX.rf | refine sameX.sI ?_ (by first | rfl | exact Or.inl rfl | exact Or.inr rfl | trivial | decide | omega | simp) _ | refine sameX.sA ?_ (by first | rfl | exact Or.inl rfl | exact Or.inr rfl | trivial | decide | omega | simp) _ _ | refine sameX.sL ?_ (by first | rfl | exact Or.inl rfl | exact Or.inr rfl | trivial | decide | omega | simp) _ | refine sameX.sP ?_ (by first | rfl | exact Or.inl rfl | exact Or.inr rfl | trivial | decide | omega | simp) _ | refine sameX.sB ?_ (by first | rfl | exact Or.inl rfl | exact Or.inr rfl | trivial | decide | omega | simp) _ _))
    rw [fX6_lays_9.eq_2, nI_pred, if_neg (nI_pos (by omega)), hM.1.2.1, gdT hR0, gd_in (show i < 6 by omega) (by decide), remN (by omega) (by omega) (by omega), epl, clampN (by omega), stp_s, hM1.1.2.1, gdT hR0, pk_div (by omega) (by omega) (by omega), div_pow (by omega), addm1]
    exact ih n _ (by omega) (by omega) hM1 (fun t h1 h2 => by
      simp only [mI_sI, mI_sL, mI_sP, mI_sA, mI_sB, mL_sI, mL_sL, mL_sP, mL_sA, mL_sB, mP_sI, mP_sL, mP_sP, mP_sA, mP_sB, mA_sI, mA_sL, mA_sP, mA_sAg, mA_sB, mB_sI, mB_sL, mB_sP, mB_sA, mB_sBg, mE_sI, mE_sL, mE_sP, mE_sA, mE_sB, Nat.reduceEqDiff, Nat.reduceAdd, Nat.reduceMul, Nat.reduceSub, Nat.reduceLT, Nat.reduceLeDiff, Nat.reduceDiv, Nat.reduceMod, Nat.reduceBEq, and_true, true_and, and_false, false_and, and_self, ite_true, ite_false, if_true, if_false, reduceIte, eq_self, not_true, not_false_eq_true, Bool.true_and, Bool.and_true, Bool.false_and, Bool.and_false, Bool.or_true, Bool.true_or, Bool.or_false, Bool.false_or, Bool.not_true, Bool.not_false, reduceCtorEq, upd_e, Nat.add_eq_zero_iff, Nat.add_right_cancel_iff, Nat.add_left_cancel_iff]
      by_cases e : t = i
      · rw [if_pos e, e]
      · rw [if_neg e]; exact ha t (by omega) h2)
theorem M_lays {τ : Mem} {A : AS} (ok : AOK A) (hM : MS τ A) {j : Nat} (hj : j < 100000) : ∃ τ', fX6_lays τ 0 (nI j) = some τ' ∧ MS τ' A ∧ ∀ t, t < iT (aI A) → mA τ' 0 30 t = nI (plN (iR (aI A)) (iT (aI A)) j t) := by
  have hT := ok.1.2.2.2.1
  obtain ⟨τ', e1, r⟩ := M_lays_l ok hj (iT (aI A)) FU τ (Nat.le_refl _) (by show _ < 1000; omega) hM (fun t h1 h2 => by omega)
  rw [Nat.sub_self, Nat.pow_zero, Nat.div_one] at e1
  refine ⟨τ', ?_, r⟩
  unfold fX6_lays
  rw [hM.1.2.2.2.1]
  exact e1
/-! what a plan costs -/
def sdP (I : IV) (p : Nat → Nat) (t : Nat) : Nat := sdT I (mkR (iT I) p (p t)) t
def LLp (I : IV) (p : Nat → Nat) : Nat := pmax (sdP I p) (iT I)
def SSp (I : IV) (p : Nat → Nat) : Nat := psum (sdP I p) (iT I)
def byP (I : IV) (n : Nat) (p : Nat → Nat) (t : Nat) : Nat := if sdP I p t ≤ n then 1 else 0
def CNp (I : IV) (n : Nat) (p : Nat → Nat) : Nat := psum (byP I n p) (iT I)
theorem sdP_le {I : IV} (ok : IOK I) (p : Nat → Nat) (t : Nat) : sdP I p t ≤ 100 := sd_le ok mkR_lt t
theorem LLp_le {I : IV} (ok : IOK I) (p : Nat → Nat) : LLp I p ≤ 100 := pmax_le (fun t _ => sdP_le ok p t)
theorem SSp_le {I : IV} (ok : IOK I) (p : Nat → Nat) : SSp I p ≤ 600 := by
  have h := psum_le (f := sdP I p) (c := 100) (i := iT I) (fun t _ => sdP_le ok p t)
  have hT := ok.2.2.2.1
  have := Nat.mul_le_mul_right 100 hT
  unfold SSp; omega
theorem CNp_le {I : IV} (ok : IOK I) (n : Nat) (p : Nat → Nat) : CNp I n p ≤ 6 := by
  have h := psum_le (f := byP I n p) (c := 1) (i := iT I) (fun t _ => by unfold byP; split <;> omega)
  have hT := ok.2.2.2.1
  unfold CNp; omega
def cIp (md : Option Nat) (I : IV) (p : Nat → Nat) : Int32 := match md with
  | none => nI (1000 * LLp I p + SSp I p)
  | some n => -nI (CNp I n p)
def keyP (md : Option Nat) (I : IV) (p : Nat → Nat) : Nat := match md with
  | none => 1000 * LLp I p + SSp I p
  | some n => 1000 - CNp I n p
theorem cIp_le {md : Option Nat} {I : IV} (ok : IOK I) (p p' : Nat → Nat) : (cIp md I p ≤ cIp md I p') ↔ keyP md I p ≤ keyP md I p' := by
  have h1 := LLp_le ok p
  have h2 := LLp_le ok p'
  have h3 := SSp_le ok p
  have h4 := SSp_le ok p'
  cases md with
  | none =>
    show nI (1000 * LLp I p + SSp I p) ≤ nI (1000 * LLp I p' + SSp I p') ↔ 1000 * LLp I p + SSp I p ≤ 1000 * LLp I p' + SSp I p'
    rw [leN (by omega) (by omega)]
  | some n =>
    have h5 := CNp_le ok n p
    have h6 := CNp_le ok n p'
    show -nI (CNp I n p) ≤ -nI (CNp I n p') ↔ 1000 - CNp I n p ≤ 1000 - CNp I n p'
    rw [Int32.le_iff_toInt_le, negI (by omega), negI (by omega)]
    omega
theorem row3 {T : Nat} {p : Nat → Nat} {t : Nat} (ht : t < T) (hp : p t < 3) : (mkR T p 0 t = decide (p t = 0)) ∧ (mkR T p 1 t = decide (p t = 1)) ∧ (mkR T p 2 t = decide (p t = 2)) := by
  unfold mkR
  rw [decide_eq_true ht]
  exact ⟨Bool.true_and _, Bool.true_and _, Bool.true_and _⟩
theorem rows_S {I : IV} {p : Nat → Nat} {t : Nat} (ht : t < iT I) (hp : p t < 3) : gSo I (mkR (iT I) p 0) t + gSo I (mkR (iT I) p 1) t + gSo I (mkR (iT I) p 2) t = sdP I p t ∧ max (max (gSo I (mkR (iT I) p 0) t) (gSo I (mkR (iT I) p 1) t)) (gSo I (mkR (iT I) p 2) t) = sdP I p t := by
  obtain ⟨r0, r1, r2⟩ := row3 ht hp
  unfold gSo sdP
  rw [r0, r1, r2]
  have e : p t = 0 ∨ p t = 1 ∨ p t = 2 := by omega
  rcases e with e | e | e <;> rw [e] <;> simp
theorem rows_M {I : IV} {n : Nat} {p : Nat → Nat} {t : Nat} (ht : t < iT I) (hp : p t < 3) : gMo I n (mkR (iT I) p 0) t + gMo I n (mkR (iT I) p 1) t + gMo I n (mkR (iT I) p 2) t = byP I n p t := by
  obtain ⟨r0, r1, r2⟩ := row3 ht hp
  unfold gMo byP sdP
  rw [r0, r1, r2]
  have e : p t = 0 ∨ p t = 1 ∨ p t = 2 := by omega
  rcases e with e | e | e <;> rw [e] <;> simp
theorem C_cost {σ : Mem} {A : AS} (ok : AOK A) {md : Option Nat} {p : Nat → Nat} (hp : ∀ t, t < iT (aI A) → p t < 3) (hW : ∀ w, w < 2 ^ iT (aI A) → WMm σ md (aI A) w) (h1 : ∀ k, k < 3 → mA σ 6 1 k = nI (bs6 (mkR (iT (aI A)) p k))) : fX3_costOfRows σ 6 = some (cIp md (aI A) p) := by
  have hT := ok.1.2.2.2.1
  obtain ⟨m, hm⟩ : ∃ m, FU = m + 1 + 1 + 1 + 1 := ⟨996, rfl⟩
  have hw : ∀ k, mA σ 6 2 (bs6 (mkR (iT (aI A)) p k)) = nI (lW md (aI A) (mkR (iT (aI A)) p k) (iT (aI A))) ∧ mA σ 6 3 (bs6 (mkR (iT (aI A)) p k)) = sW md (aI A) (mkR (iT (aI A)) p k) (iT (aI A)) := fun k => by
    have := hW (bs6 (mkR (iT (aI A)) p k)) (bs6_ltT hT mkR_lt)
    unfold WMm at this
    rw [bs_btw (fun t h => by have := mkR_lt t h; omega)] at this
    exact this
  have b : ∀ k, bs6 (mkR (iT (aI A)) p k) < 64 := fun k => bs6_lt _
  have lb : ∀ k, lW md (aI A) (mkR (iT (aI A)) p k) (iT (aI A)) ≤ 100 := fun k => by
    cases md with
    | none => exact pmax_le (fun t _ => gSo_le (sd_le ok.1 mkR_lt t))
    | some n => exact Nat.zero_le _
  have l0' := lb 0; have l1' := lb 1; have l2' := lb 2
  have b0 := b 0; have b1 := b 1; have b2 := b 2
  unfold fX3_costOfRows
  rw [hm, fX3_costOfRows_6.eq_2, if_neg (show ¬ (3 : Int32) ≤ 0 by decide), l0]
  simp only [gd_in (show 0 < 3 by decide) (show 3 < 2147483648 by decide), clampN (show 0 < 2147483648 by decide), h1 0 (by decide), gd_in b0 (show 64 < 2147483648 by decide), clampN (show bs6 (mkR (iT (aI A)) p 0) < 2147483648 by omega), (hw 0).1, (hw 0).2, nI_1]
  rw [fX3_costOfRows_6.eq_2, show (3 : Int32) = nI 3 from rfl, iteLE (by decide) (by decide), if_neg (by decide)]
  simp only [gd_in (show 0 + 1 < 3 by decide) (show 3 < 2147483648 by decide), clampN (show 0 + 1 < 2147483648 by decide), h1 (0 + 1) (by decide), gd_in b1 (show 64 < 2147483648 by decide), clampN (show bs6 (mkR (iT (aI A)) p 1) < 2147483648 by omega), (hw 1).1, (hw 1).2, nI_1]
  rw [fX3_costOfRows_6.eq_2, show (3 : Int32) = nI 3 from rfl, iteLE (by decide) (by decide), if_neg (by decide)]
  simp only [gd_in (show 0 + 1 + 1 < 3 by decide) (show 3 < 2147483648 by decide), clampN (show 0 + 1 + 1 < 2147483648 by decide), h1 (0 + 1 + 1) (by decide), gd_in b2 (show 64 < 2147483648 by decide), clampN (show bs6 (mkR (iT (aI A)) p 2) < 2147483648 by omega), (hw 2).1, (hw 2).2, nI_1]
  rw [fX3_costOfRows_6.eq_2, show (3 : Int32) = nI 3 from rfl, iteLE (by decide) (by decide), if_pos (by decide)]
  rw [mxN (by omega) (by omega), mxN (by omega) (by omega), mxN (by omega) (by omega), Nat.max_eq_right (Nat.zero_le _), fa_lit 1000, pk_mul]
  refine congrArg some ?_
  cases md with
  | none =>
    have e1 : max (max (pmax (gSo (aI A) (mkR (iT (aI A)) p 0)) (iT (aI A))) (pmax (gSo (aI A) (mkR (iT (aI A)) p 1)) (iT (aI A)))) (pmax (gSo (aI A) (mkR (iT (aI A)) p 2)) (iT (aI A))) = LLp (aI A) p := pmax3 (fun t ht => (rows_S ht (hp t ht)).2)
    have e2 : psum (gSo (aI A) (mkR (iT (aI A)) p 0)) (iT (aI A)) + psum (gSo (aI A) (mkR (iT (aI A)) p 1)) (iT (aI A)) + psum (gSo (aI A) (mkR (iT (aI A)) p 2)) (iT (aI A)) = SSp (aI A) p := psum3 (fun t ht => (rows_S ht (hp t ht)).1)
    show nI (max (max (pmax (gSo (aI A) (mkR (iT (aI A)) p 0)) (iT (aI A))) (pmax (gSo (aI A) (mkR (iT (aI A)) p 1)) (iT (aI A)))) (pmax (gSo (aI A) (mkR (iT (aI A)) p 2)) (iT (aI A))) * 1000) + (nI 0 + nI (psum (gSo (aI A) (mkR (iT (aI A)) p 0)) (iT (aI A))) + nI (psum (gSo (aI A) (mkR (iT (aI A)) p 1)) (iT (aI A))) + nI (psum (gSo (aI A) (mkR (iT (aI A)) p 2)) (iT (aI A)))) = nI (1000 * LLp (aI A) p + SSp (aI A) p)
    rw [nI_add, nI_add, nI_add, nI_add, Nat.zero_add, e1, e2, Nat.mul_comm]
  | some n =>
    have e2 : psum (gMo (aI A) n (mkR (iT (aI A)) p 0)) (iT (aI A)) + psum (gMo (aI A) n (mkR (iT (aI A)) p 1)) (iT (aI A)) + psum (gMo (aI A) n (mkR (iT (aI A)) p 2)) (iT (aI A)) = CNp (aI A) n p := psum3 (fun t ht => rows_M ht (hp t ht))
    show nI (max (max 0 0) 0 * 1000) + (nI 0 + -nI (psum (gMo (aI A) n (mkR (iT (aI A)) p 0)) (iT (aI A))) + -nI (psum (gMo (aI A) n (mkR (iT (aI A)) p 1)) (iT (aI A))) + -nI (psum (gMo (aI A) n (mkR (iT (aI A)) p 2)) (iT (aI A)))) = -nI (CNp (aI A) n p)
    rw [show nI (max (max 0 0) 0 * 1000) = 0 from rfl, show nI 0 = 0 from rfl, Int32.zero_add, Int32.zero_add, negA, negA, e2]
theorem M_by {τ : Mem} {A : AS} (ok : AOK A) (hM : MS τ A) {p : Nat → Nat} {k : Nat} (hk : k ≤ 200) (h33 : ∀ t, t < iT (aI A) → mA τ 0 33 t = nI (sdP (aI A) p t)) : fX6_sailedBy τ 0 (nI k) = some (nI (CNp (aI A) k p)) := by
  have hT := ok.1.2.2.2.1
  have l : ∀ (r i n : Nat), i + r = iT (aI A) → r < n → fX6_sailedBy_4 τ 0 n (nI k) (nI (psum (byP (aI A) k p) i)) (nI i) = some (nI (CNp (aI A) k p)) := by
    intro r
    induction r with
    | zero =>
      intro i n hi hn
      obtain ⟨n, rfl⟩ : ∃ m, n = m + 1 := ⟨n - 1, by omega⟩
      have ei : i = iT (aI A) := by omega
      subst ei
      rw [fX6_sailedBy_4.eq_2, hM.1.2.2.2.1, iteLE (by omega) (by omega), if_pos (Nat.le_refl _)]
      rfl
    | succ r ih =>
      intro i n hi hn
      obtain ⟨n, rfl⟩ : ∃ m, n = m + 1 := ⟨n - 1, by omega⟩
      have hs := sdP_le ok.1 p i
      have z := ih (i + 1) n (by omega) (by omega)
      rw [fX6_sailedBy_4.eq_2, hM.1.2.2.2.1, iteLE (by omega) (by omega), if_neg (by omega), gd_in (show i < 6 by omega) (by decide), clampN (by omega), h33 i (by omega), iteL (by omega) (by omega), nI_1, nI_1, l0, nI_add]
      have z : fX6_sailedBy_4 τ 0 n (nI k) (nI (psum (byP (aI A) k p) i + byP (aI A) k p i)) (nI (i + 1)) = _ := z
      by_cases e : k < sdP (aI A) p i
      · rw [if_pos e, ← z, show byP (aI A) k p i = 0 from if_neg (by omega)]
      · rw [if_neg e, ← z, show byP (aI A) k p i = 1 from if_pos (by omega)]
  exact l (iT (aI A)) 0 FU (by omega) (by show _ < 1000; omega)
theorem M_late {τ : Mem} {A : AS} (ok : AOK A) (hM : MS τ A) {p : Nat → Nat} (h33 : ∀ t, t < iT (aI A) → mA τ 0 33 t = nI (sdP (aI A) p t)) : fX6_late τ 0 = some (nI (10000 * LLp (aI A) p + SSp (aI A) p)) := by
  have hT := ok.1.2.2.2.1
  have l : ∀ (r i n : Nat), i + r = iT (aI A) → r < n → fX6_late_6 τ 0 n (nI (pmax (sdP (aI A) p) i)) (nI (psum (sdP (aI A) p) i)) (nI i) = some (nI (10000 * LLp (aI A) p + SSp (aI A) p)) := by
    intro r
    induction r with
    | zero =>
      intro i n hi hn
      obtain ⟨n, rfl⟩ : ∃ m, n = m + 1 := ⟨n - 1, by omega⟩
      have ei : i = iT (aI A) := by omega
      subst ei
      rw [fX6_late_6.eq_2, hM.1.2.2.2.1, iteLE (by omega) (by omega), if_pos (Nat.le_refl _), fa_lit 10000, pk_mul, nI_add]
      rfl
    | succ r ih =>
      intro i n hi hn
      obtain ⟨n, rfl⟩ : ∃ m, n = m + 1 := ⟨n - 1, by omega⟩
      have hs := sdP_le ok.1 p i
      have hx := pmax_le (f := sdP (aI A) p) (c := 100) (i := i) (fun t _ => sdP_le ok.1 p t)
      have z := ih (i + 1) n (by omega) (by omega)
      have z : fX6_late_6 τ 0 n (nI (max (pmax (sdP (aI A) p) i) (sdP (aI A) p i))) (nI (psum (sdP (aI A) p) i + sdP (aI A) p i)) (nI (i + 1)) = _ := z
      rw [fX6_late_6.eq_2, hM.1.2.2.2.1, iteLE (by omega) (by omega), if_neg (by omega), gd_in (show i < 6 by omega) (by decide), gd_in (show i < 6 by omega) (by decide), clampN (by omega), h33 i (by omega), iteLE (by omega) (by omega)]
      unfold fX6_late_34
      rw [gd_in (show i < 6 by omega) (by decide), gd_in (show i < 6 by omega) (by decide), clampN (by omega), h33 i (by omega), nI_add, nI_1]
      by_cases e : sdP (aI A) p i ≤ pmax (sdP (aI A) p) i
      · rw [if_pos e, ← z, Nat.max_eq_left e]
      · rw [if_neg e, ← z, Nat.max_eq_right (by omega)]
  exact l (iT (aI A)) 0 FU (by omega) (by show _ < 1000; omega)
