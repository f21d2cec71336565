/-! whose -/
def eqU (u v : Nat → Nat) : Nat → Nat → Bool
  | _, 0 => true
  | i, d + 1 => decide (u i = v i) && eqU u v (i + 1) d
theorem eqU_iff {u v : Nat → Nat} : ∀ {d i : Nat}, eqU u v i d = true ↔ ∀ j, i ≤ j → j < i + d → u j = v j
  | 0, i => ⟨fun _ j h1 h2 => by omega, fun _ => rfl⟩
  | d + 1, i => by
    have ih := eqU_iff (u := u) (v := v) (d := d) (i := i + 1)
    show (decide (u i = v i) && eqU u v (i + 1) d) = true ↔ _
    rw [Bool.and_eq_true, ih, decide_eq_true_eq]
    constructor
    · intro ⟨h1, h2⟩ j hj1 hj2
      by_cases e : j = i
      · rw [e]; exact h1
      · exact h2 j (by omega) (by omega)
    · intro h
      exact ⟨h i (Nat.le_refl i) (by omega), fun j h1 h2 => h j (by omega) (by omega)⟩
/-- is the letter u of length k the one that lies there -/
def sameL (A : AS) (u : Nat → Nat) (k : Nat) : Bool := decide (k = vN (aN A)) && eqU u (vW (aN A)) 0 k
theorem enc_same {A : AS} (ok : AOK A) {u : Nat → Nat} {k : Nat} (hk : k ≤ 5) (hu : ∀ i, i < k → u i ≤ 10) : (nI (enc u k) = nI (enc (vW (aN A)) (vN (aN A)))) ↔ sameL A u k = true := by
  have h5 := ok.2.2.1.2.2.2.2.1
  have hw := ok.2.2.1.2.2.2.2.2
  have l1 := enc_lt hk hu
  have l2 := enc_lt h5 hw
  rw [eqN (by omega) (by omega)]
  unfold sameL
  rw [Bool.and_eq_true, eqU_iff, decide_eq_true_eq]
  constructor
  · intro e
    have ek := enc_len hu hw e
    rw [← ek] at e hw
    exact ⟨ek, fun j _ hj => enc_inj hu hw e j (by omega)⟩
  · intro ⟨ek, h⟩
    rw [← ek]
    exact enc_c (fun i hi => h i (Nat.zero_le i) (by omega))
theorem M_begins {k : Nat} (hk : k ≤ 5) {w : Nat → Nat} {τ : Mem} (h35 : ∀ i, i < k → mA τ 0 35 i = nI (w i)) : ∃ τ', fX6_begins τ 0 = some τ' ∧ (∀ i, i < k → mA τ' 0 36 i = nI (w i)) ∧ sameX (fun _ k => k = 36) τ τ' := by
  obtain ⟨m, hm⟩ : ∃ m, FU = m + 6 := ⟨994, rfl⟩
  refine exS (a := sA (sA (sA (sA (sA τ 0 36 0 (mA τ 0 35 0)) 0 36 1 (mA τ 0 35 1)) 0 36 2 (mA τ 0 35 2)) 0 36 3 (mA τ 0 35 3)) 0 36 4 (mA τ 0 35 4)) ?_ ⟨fun i hi => ?_, by repeat (first | exact sameX.rf | refine sameX.sI ?_ (by first | rfl | exact Or.inl rfl | exact Or.inr rfl | trivial | decide | omega | simp) _ | refine sameX.sA ?_ (by first | rfl | exact Or.inl rfl | exact Or.inr rfl | trivial | decide | omega | simp) _ _ | refine sameX.sL ?_ (by first | rfl | exact Or.inl rfl | exact Or.inr rfl | trivial | decide | omega | simp) _ | refine sameX.sP ?_ (by first | rfl | exact Or.inl rfl | exact Or.inr rfl | trivial | decide | omega | simp) _ | refine sameX.sB ?_ (by first | rfl | exact Or.inl rfl | exact Or.inr rfl | trivial | decide | omega | simp) _ _)⟩
  · simp (disch := omega) only [fX6_begins, hm, fX6_begins_2, stp_s, bd_s, bd2_s, gd_t, gd_in, clampN, fa_lit, ofN, nI_add, pk_mul, leN, ltN, eqN, eqNg, gNeq, gNlt, gNle, ltNg, leNg, gg, mI_sI, mI_sL, mI_sP, mI_sA, mI_sB, mL_sI, mL_sL, mL_sP, mL_sA, mL_sB, mP_sI, mP_sL, mP_sP, mP_sA, mP_sB, mA_sI, mA_sL, mA_sP, mA_sAg, mA_sB, mB_sI, mB_sL, mB_sP, mB_sA, mB_sBg, mE_sI, mE_sL, mE_sP, mE_sA, mE_sB, Nat.reduceEqDiff, Nat.reduceAdd, Nat.reduceMul, Nat.reduceSub, Nat.reduceLT, Nat.reduceLeDiff, Nat.reduceDiv, Nat.reduceMod, Nat.reduceBEq, and_true, true_and, and_false, false_and, and_self, ite_true, ite_false, if_true, if_false, reduceIte, eq_self, not_true, not_false_eq_true, Bool.true_and, Bool.and_true, Bool.false_and, Bool.and_false, Bool.or_true, Bool.true_or, Bool.or_false, Bool.false_or, Bool.not_true, Bool.not_false, reduceCtorEq, upd_e, Nat.add_eq_zero_iff, Nat.add_right_cancel_iff, Nat.add_left_cancel_iff, decide_true, decide_false, Bool.false_eq_true, decide_eq_true_eq]
  · have e : i = 0 ∨ i = 1 ∨ i = 2 ∨ i = 3 ∨ i = 4 := by omega
    rw [← h35 i hi]
    rcases e with rfl | rfl | rfl | rfl | rfl <;> simp only [mI_sI, mI_sL, mI_sP, mI_sA, mI_sB, mL_sI, mL_sL, mL_sP, mL_sA, mL_sB, mP_sI, mP_sL, mP_sP, mP_sA, mP_sB, mA_sI, mA_sL, mA_sP, mA_sAg, mA_sB, mB_sI, mB_sL, mB_sP, mB_sA, mB_sBg, mE_sI, mE_sL, mE_sP, mE_sA, mE_sB, Nat.reduceEqDiff, Nat.reduceAdd, Nat.reduceMul, Nat.reduceSub, Nat.reduceLT, Nat.reduceLeDiff, Nat.reduceDiv, Nat.reduceMod, Nat.reduceBEq, and_true, true_and, and_false, false_and, and_self, ite_true, ite_false, if_true, if_false, reduceIte, eq_self, not_true, not_false_eq_true, Bool.true_and, Bool.and_true, Bool.false_and, Bool.and_false, Bool.or_true, Bool.true_or, Bool.or_false, Bool.false_or, Bool.not_true, Bool.not_false, reduceCtorEq, upd_e, Nat.add_eq_zero_iff, Nat.add_right_cancel_iff, Nat.add_left_cancel_iff]
theorem M_son_l {I : IV} (ok : IOK I) {c k : Nat} (hc : c < iK I) (hk : k ≤ 5) {u : Nat → Nat} (hu : ∀ i, i < k → u i ≤ 10) : ∀ (d i n : Nat) (τ : Mem), IMo τ I → mI τ 0 37 = nI k → i + d = k → d < n → (∀ j, j < i → mA τ 0 36 j = nI (cpw I c (u j))) → (∀ j, i ≤ j → j < k → mA τ 0 36 j = nI (u j)) → ∃ τ', fX6_smokesOn_2 0 n τ (nI c) (nI i) = some τ' ∧ (∀ j, j < k → mA τ' 0 36 j = nI (cpw I c (u j))) ∧ sameX (fun _ k => k = 36) τ τ' := by
  intro d
  induction d with
  | zero =>
    intro i n τ hI h37 hi hn h1 h2
    obtain ⟨n, rfl⟩ : ∃ m, n = m + 1 := ⟨n - 1, by omega⟩
    refine ⟨τ, ?_, fun j hj => h1 j (by omega), sameX.rf⟩
    rw [fX6_smokesOn_2.eq_2, h37, iteLE (by omega) (by omega), if_pos (by omega)]
  | succ d ih =>
    intro i n τ hI h37 hi hn h1 h2
    obtain ⟨n, rfl⟩ : ∃ m, n = m + 1 := ⟨n - 1, by omega⟩
    obtain ⟨τ', e1, a1, s1⟩ := ih (i + 1) n (sA τ 0 36 i (nI (cpw I c (u i)))) (hI.keep (F := fun _ k => k = 36) (by repeat (first | exact sameX.rf | refine sameX.sI ?_ (by first | rfl | exact Or.inl rfl | exact Or.inr rfl | trivial | decide | omega | simp) _ | refine sameX.sA ?_ (by first | rfl | exact Or.inl rfl | exact Or.inr rfl | trivial | decide | omega | simp) _ _ | refine sameX.sL ?_ (by first | rfl | exact Or.inl rfl | exact Or.inr rfl | trivial | decide | omega | simp) _ | refine sameX.sP ?_ (by first | rfl | exact Or.inl rfl | exact Or.inr rfl | trivial | decide | omega | simp) _ | refine sameX.sB ?_ (by first | rfl | exact Or.inl rfl | exact Or.inr rfl | trivial | decide | omega | simp) _ _)) (fun k hk => by omega)) (by simp only [mI_sI, mI_sL, mI_sP, mI_sA, mI_sB, mL_sI, mL_sL, mL_sP, mL_sA, mL_sB, mP_sI, mP_sL, mP_sP, mP_sA, mP_sB, mA_sI, mA_sL, mA_sP, mA_sAg, mA_sB, mB_sI, mB_sL, mB_sP, mB_sA, mB_sBg, mE_sI, mE_sL, mE_sP, mE_sA, mE_sB]; exact h37) (by omega) (by omega) (fun j hj => by
        simp only [mI_sI, mI_sL, mI_sP, mI_sA, mI_sB, mL_sI, mL_sL, mL_sP, mL_sA, mL_sB, mP_sI, mP_sL, mP_sP, mP_sA, mP_sB, mA_sI, mA_sL, mA_sP, mA_sAg, mA_sB, mB_sI, mB_sL, mB_sP, mB_sA, mB_sBg, mE_sI, mE_sL, mE_sP, mE_sA, mE_sB, Nat.reduceEqDiff, Nat.reduceAdd, Nat.reduceMul, Nat.reduceSub, Nat.reduceLT, Nat.reduceLeDiff, Nat.reduceDiv, Nat.reduceMod, Nat.reduceBEq, and_true, true_and, and_false, false_and, and_self, ite_true, ite_false, if_true, if_false, reduceIte, eq_self, not_true, not_false_eq_true, Bool.true_and, Bool.and_true, Bool.false_and, Bool.and_false, Bool.or_true, Bool.true_or, Bool.or_false, Bool.false_or, Bool.not_true, Bool.not_false, reduceCtorEq, upd_e, Nat.add_eq_zero_iff, Nat.add_right_cancel_iff, Nat.add_left_cancel_iff]
        by_cases e : j = i
        · rw [if_pos e, e]
        · rw [if_neg e]; exact h1 j (by omega)) (fun j hj1 hj2 => by
        simp only [mI_sI, mI_sL, mI_sP, mI_sA, mI_sB, mL_sI, mL_sL, mL_sP, mL_sA, mL_sB, mP_sI, mP_sL, mP_sP, mP_sA, mP_sB, mA_sI, mA_sL, mA_sP, mA_sAg, mA_sB, mB_sI, mB_sL, mB_sP, mB_sA, mB_sBg, mE_sI, mE_sL, mE_sP, mE_sA, mE_sB, Nat.reduceEqDiff, Nat.reduceAdd, Nat.reduceMul, Nat.reduceSub, Nat.reduceLT, Nat.reduceLeDiff, Nat.reduceDiv, Nat.reduceMod, Nat.reduceBEq, and_true, true_and, and_false, false_and, and_self, ite_true, ite_false, if_true, if_false, reduceIte, eq_self, not_true, not_false_eq_true, Bool.true_and, Bool.and_true, Bool.false_and, Bool.and_false, Bool.or_true, Bool.true_or, Bool.or_false, Bool.false_or, Bool.not_true, Bool.not_false, reduceCtorEq, upd_e, Nat.add_eq_zero_iff, Nat.add_right_cancel_iff, Nat.add_left_cancel_iff]
        rw [if_neg (by omega)]; exact h2 j (by omega) hj2)
    refine ⟨τ', ?_, a1, sameX.tr (by repeat (first | exact sameX.rf | refine sameX.sI ?_ (by first | rfl | exact Or.inl rfl | exact Or.inr rfl | trivial | decide | omega | simp) _ | refine sameX.sA ?_ (by first | rfl | exact Or.inl rfl | exact Or.inr rfl | trivial | decide | omega | simp) _ _ | refine sameX.sL ?_ (by first | rfl | exact Or.inl rfl | exact Or.inr rfl | trivial | decide | omega | simp) _ | refine sameX.sP ?_ (by first | rfl | exact Or.inl rfl | exact Or.inr rfl | trivial | decide | omega | simp) _ | refine sameX.sB ?_ (by first | rfl | exact Or.inl rfl | exact Or.inr rfl | trivial | decide | omega | simp) _ _)) s1⟩
    rw [fX6_smokesOn_2.eq_2, h37, iteLE (by omega) (by omega), if_neg (by omega), gd_in (by omega) (by decide), clampN (by omega), h2 i (Nat.le_refl i) (by omega), M_madeOf hI ok hc (hu i (by omega)), bd_s, gd_in (by omega) (by decide), stp_s, nI_1]
    exact e1
theorem M_son {I : IV} (ok : IOK I) {c k : Nat} (hc : c < iK I) (hk : k ≤ 5) {u : Nat → Nat} (hu : ∀ i, i < k → u i ≤ 10) {τ : Mem} (hI : IMo τ I) (h37 : mI τ 0 37 = nI k) (h36 : ∀ j, j < k → mA τ 0 36 j = nI (u j)) : ∃ τ', fX6_smokesOn τ 0 (nI c) = some τ' ∧ (∀ j, j < k → mA τ' 0 36 j = nI (cpw I c (u j))) ∧ sameX (fun _ k => k = 36) τ τ' :=
  M_son_l ok hc hk hu k 0 FU τ hI h37 (by omega) (by show _ < 1000; omega) (fun j hj => absurd hj (Nat.not_lt_zero j)) (fun j _ hj => h36 j hj)
theorem M_isL_l {A : AS} {k : Nat} (hk : k ≤ 5) {u : Nat → Nat} (hu : ∀ i, i < k → u i ≤ 10) (ok : AOK A) {τ : Mem} (hM : MS τ A) (h37 : mI τ 0 37 = nI k) (h36 : ∀ j, j < k → mA τ 0 36 j = nI (u j)) : ∀ (d i n : Nat) (b : Bool), (b = true → k = vN (aN A)) → i + d = k → d < n → fX6_isLetter_22 τ 0 n 0 36 5 (nI (b2n b)) (nI i) = some (nI (b2n (b && eqU u (vW (aN A)) i d))) := by
  have hw := ok.2.2.1.2.2.2.2.2
  intro d
  induction d with
  | zero =>
    intro i n b hb hi hn
    obtain ⟨n, rfl⟩ : ∃ m, n = m + 1 := ⟨n - 1, by omega⟩
    rw [fX6_isLetter_22.eq_2, h37, iteLE (by omega) (by omega), if_pos (by omega)]
    cases b
    · rfl
    · rfl
  | succ d ih =>
    intro i n b hb hi hn
    obtain ⟨n, rfl⟩ : ∃ m, n = m + 1 := ⟨n - 1, by omega⟩
    rw [fX6_isLetter_22.eq_2, h37, iteLE (by omega) (by omega), if_neg (by omega), nI_1]
    cases b with
    | false =>
      rw [if_pos (show nI (b2n false) = 0 from rfl)]
      refine (ih (i + 1) n false (fun q => absurd q (by decide)) (by omega) (by omega)).trans ?_
      rw [Bool.false_and, Bool.false_and]
    | true =>
      have ek := hb rfl
      have hui := hu i (by omega)
      have hwi := hw i (by omega)
      rw [if_neg (show ¬ nI (b2n true) = 0 by decide), gd_in (by omega) (by decide), show (21 : Int32) = nI 21 from rfl, nI_add, gd_in (by omega) (by decide), clampN (by omega), clampN (by omega), h36 i (by omega), hM.2.2.1.2.2.2.2.2.2 i (by omega), iteE (by omega) (by omega), Bool.true_and]
      show _ = some (nI (b2n (decide (u i = vW (aN A) i) && eqU u (vW (aN A)) (i + 1) d)))
      by_cases e : u i = vW (aN A) i
      · rw [if_pos e, decide_eq_true e]
        exact ih (i + 1) n true (fun _ => ek) (by omega) (by omega)
      · rw [if_neg e, decide_eq_false e]
        refine (ih (i + 1) n false (fun q => absurd q (by decide)) (by omega) (by omega)).trans ?_
        rw [Bool.false_and]
theorem M_isL {A : AS} {k : Nat} (hk : k ≤ 5) {u : Nat → Nat} (hu : ∀ i, i < k → u i ≤ 10) (ok : AOK A) {τ : Mem} (hM : MS τ A) (h37 : mI τ 0 37 = nI k) (h36 : ∀ j, j < k → mA τ 0 36 j = nI (u j)) : fX6_isLetter τ 0 0 36 5 = some (nI (b2n (sameL A u k))) := by
  have h5 := ok.2.2.1.2.2.2.2.1
  have m20 : mA τ 0 7 20 = nI (vN (aN A)) := hM.2.2.1.2.2.2.2.2.1
  unfold fX6_isLetter sameL
  rw [show (20 : Int32) = nI 20 from rfl, gd_in (by decide) (by decide), clampN (by decide), m20, h37, iteE (by omega) (by omega)]
  by_cases e : k = vN (aN A)
  · rw [if_pos e, decide_eq_true e]
    exact M_isL_l hk hu ok hM h37 h36 k 0 FU true (fun _ => e) (by omega) (by show _ < 1000; omega)
  · rw [if_neg e, decide_eq_false e]
    exact M_isL_l hk hu ok hM h37 h36 k 0 FU false (fun q => absurd q (by decide)) (by omega) (by show _ < 1000; omega)
theorem whose_l {σ : Mem} {q q2 : Nat} {A : AS} (ok : AOK A) (hC : CSq σ q q2 A) {k : Nat} (hk : k ≤ 5) {w : Nat → Nat} (hw : ∀ i, i < k → w i ≤ 9) : ∀ (d c n m : Nat) (p : Nat → Bool) (τ : Mem), c + d = iK (aI A) → d < n → d < m → MS τ A → mI τ 0 37 = nI k → (∀ i, i < k → mA τ 0 35 i = nI (w i)) → ∃ r τ', fX5_whose_13 σ 0 n (nI (enc w k)) (nI (bs10 p)) (nI c) = some r ∧ fX6_whose_14 0 m τ (nI (bs10 p)) (nI c) = some (r, τ') ∧ MS τ' A := by
  have hP1 : mP σ 0 1 = q := hC.1.2.2.2.2.1
  have hP3 : mP σ 0 3 = 4 := hC.1.2.1
  have hK := ok.1.2.2.2.2.1
  have hw10 : ∀ i, i < k → w i ≤ 10 := fun i hi => Nat.le_trans (hw i hi) (by decide)
  intro d
  induction d with
  | zero =>
    intro c n m p τ hc hn hm hM h37 h35
    obtain ⟨n, rfl⟩ : ∃ m, n = m + 1 := ⟨n - 1, by omega⟩
    obtain ⟨m, rfl⟩ : ∃ m', m = m' + 1 := ⟨m - 1, by omega⟩
    refine ⟨nI (bs10 p), τ, ?_, ?_, hM⟩
    · rw [fX5_whose_13.eq_2, hP1, hC.2.1.2.2.2.2.1, iteLE (by omega) (by omega), if_pos (by omega)]
    · rw [fX6_whose_14.eq_2, hM.1.2.2.2.2.1, iteLE (by omega) (by omega), if_pos (by omega)]
  | succ d ih =>
    intro c n m p τ hc hn hm hM h37 h35
    obtain ⟨n, rfl⟩ : ∃ m, n = m + 1 := ⟨n - 1, by omega⟩
    obtain ⟨m, rfl⟩ : ∃ m', m = m' + 1 := ⟨m - 1, by omega⟩
    have hcK : c < iK (aI A) := by omega
    obtain ⟨τ1, e1, a1, s1⟩ := M_begins hk h35
    have hM1 : MS τ1 A := hM.scratch (s1.mono (fun o k h => by omega))
    have h371 : mI τ1 0 37 = nI k := by rw [(s1 0 37 (by omega)).1]; exact h37
    obtain ⟨τ2, e2, a2, s2⟩ := M_son ok.1 hcK hk hw10 hM1.1 h371 a1
    have hM2 : MS τ2 A := hM1.scratch (s2.mono (fun o k h => by omega))
    have h372 : mI τ2 0 37 = nI k := by rw [(s2 0 37 (by omega)).1]; exact h371
    have h352 : ∀ i, i < k → mA τ2 0 35 i = nI (w i) := fun i hi => by rw [(s2 0 35 (by omega)).2.2.2.1, (s1 0 35 (by omega)).2.2.2.1]; exact h35 i hi
    have hu : ∀ i, i < k → (fun i => cpw (aI A) c (w i)) i ≤ 10 := fun i hi => cpw_le ok.1 hcK (hw10 i hi)
    have e3 := M_isL hk hu ok hM2 h372 a2
    have esm := C_smoked hC.2.1 ok.1 hcK hw10 hk
    have key := enc_same ok hk hu
    by_cases es : sameL A (fun i => cpw (aI A) c (w i)) k = true
    · obtain ⟨r, τ', f1, f2, f3⟩ := ih (c + 1) n m (fun j => p j || decide (j = c)) τ2 (by omega) (by omega) (by omega) hM2 h372 h352
      refine ⟨r, τ', ?_, ?_, f3⟩
      · rw [fX5_whose_13.eq_2, hP1, hC.2.1.2.2.2.2.1, iteLE (by omega) (by omega), if_neg (by omega), esm, bd_s, hP3, hC.2.2.2.1.2.2.2.1, if_pos (key.mpr es), nI_1]
        exact (congrArg (fun z => fX5_whose_13 σ 0 n (nI (enc w k)) z (nI (c + 1))) (bs10_or p (show c < 10 by omega))).trans f1
      · rw [fX6_whose_14.eq_2, hM.1.2.2.2.2.1, iteLE (by omega) (by omega), if_neg (by omega), e1, bd_s, e2, bd_s, e3, bd_s, es, if_neg (show ¬ nI (b2n true) = 0 by decide), nI_1]
        exact (congrArg (fun z => fX6_whose_14 0 m τ2 z (nI (c + 1))) (bs10_or p (show c < 10 by omega))).trans f2
    · obtain ⟨r, τ', f1, f2, f3⟩ := ih (c + 1) n m p τ2 (by omega) (by omega) (by omega) hM2 h372 h352
      refine ⟨r, τ', ?_, ?_, f3⟩
      · rw [fX5_whose_13.eq_2, hP1, hC.2.1.2.2.2.2.1, iteLE (by omega) (by omega), if_neg (by omega), esm, bd_s, hP3, hC.2.2.2.1.2.2.2.1, if_neg (fun q => es (key.mp q)), nI_1]
        exact f1
      · rw [fX6_whose_14.eq_2, hM.1.2.2.2.2.1, iteLE (by omega) (by omega), if_neg (by omega), e1, bd_s, e2, bd_s, e3, bd_s, (Bool.not_eq_true _).mp es, if_pos (show nI (b2n false) = 0 from rfl), nI_1]
        exact (congrArg (fun z => fX6_whose_14 0 m τ2 z (nI (c + 1))) (or0 p)).trans f2
theorem op_whose {σ τ : Mem} (h : Rel σ τ) (x1 : Int32) : ∃ (r : Int32) (τ' : Mem), fX5_whose σ 0 x1 = some r ∧ fX6_whose τ 0 x1 = some (r, τ') ∧ Rel σ τ' := by
  obtain ⟨A, q, q2, ok, hC, hM⟩ := id h
  have hK := ok.1.2.2.2.2.1
  rcases reads_ok hM x1 with ⟨e1, τ', e2, m1⟩ | ⟨k, w, k1, k5, hw, rfl, e1, τ1, e2, m1, h37, h35⟩
  · refine ⟨-1, τ', ?_, ?_, A, q, q2, ok, hC, m1⟩
    · unfold fX5_whose; rw [e1]; rfl
    · unfold fX6_whose; rw [e2]; rfl
  · obtain ⟨r, τ', f1, f2, f3⟩ := whose_l ok hC k5 hw (iK (aI A)) 0 FU FU (fun _ => false) τ1 (by omega) (by show _ < 1000; omega) (by show _ < 1000; omega) m1 h37 h35
    rw [bs10_0] at f1 f2
    refine ⟨r, τ', ?_, ?_, A, q, q2, ok, hC, f3⟩
    · unfold fX5_whose; rw [e1, bd_s, if_neg (by decide)]; exact f1
    · unfold fX6_whose; rw [e2, bd2_s, if_neg (by decide)]; exact f2
