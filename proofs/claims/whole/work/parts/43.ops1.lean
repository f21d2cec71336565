/-! numbers in a range -/
theorem subOne {n : Nat} (hn : n ≤ 1000000) (x : Int32) : (nI n - 1 < x) ↔ nI n ≤ x := by
  rw [Int32.lt_iff_toInt_lt, Int32.le_iff_toInt_le, l1, pk_sub_toInt (by omega) (by omega), nI_toInt (by omega)]
  omega
theorem in_no {n : Nat} (hn : n ≤ 1000000) {x : Int32} (h : x < 0 ∨ nI n ≤ x) : fX6_in x 0 (nI n - 1) = some 0 := by
  unfold fX6_in
  rcases h with h | h
  · rw [if_pos h]
  · by_cases h0 : x < 0
    · rw [if_pos h0]
    · rw [if_neg h0, if_pos ((subOne hn x).mpr h)]
theorem in_yes {n j : Nat} (hn : n ≤ 1000000) (h : j < n) : fX6_in (nI j) 0 (nI n - 1) = some 1 := by
  unfold fX6_in
  rw [if_neg (nI_pos (by omega)), if_neg]
  rw [subOne hn, leN (by omega) (by omega)]
  omega
theorem inr_no {a b : Nat} {x : Int32} (h : x < nI a ∨ nI b < x) : fX6_in x (nI a) (nI b) = some 0 := by
  unfold fX6_in
  rcases h with h | h
  · rw [if_pos h]
  · by_cases h0 : x < nI a
    · rw [if_pos h0]
    · rw [if_neg h0, if_pos h]
theorem inr_yes {a b j : Nat} (h1 : a ≤ j) (h2 : j ≤ b) (hb : b < 2147483648) : fX6_in (nI j) (nI a) (nI b) = some 1 := by
  unfold fX6_in
  rw [if_neg (nI_nlt h1 (by omega)), if_neg (nI_nlt h2 (by omega))]
theorem pk_rng (x : Int32) {a b : Nat} (ha2 : a < 2147483648) (hb : b < 2147483647) : (x < nI a ∨ nI b < x) ∨ ∃ j, a ≤ j ∧ j ≤ b ∧ x = nI j := by
  rcases pk_ix x (n := b + 1) (by omega) with h | h | ⟨j, hj, rfl⟩
  · rcases Nat.eq_zero_or_pos a with rfl | ha
    · exact Or.inl (Or.inl h)
    · refine Or.inl (Or.inl ?_)
      by_cases hx : x < nI a
      · exact hx
      · exfalso
        rw [Int32.lt_iff_toInt_lt] at h hx
        rw [show (0 : Int32) = nI 0 from rfl, nI_toInt (by decide)] at h
        rw [nI_toInt ha2] at hx; omega
  · refine Or.inl (Or.inr ?_)
    rw [Int32.lt_iff_toInt_lt, nI_toInt (by omega)]
    rw [Int32.le_iff_toInt_le, nI_toInt (by omega)] at h
    omega
  · by_cases ha : a ≤ j
    · exact Or.inr ⟨j, ha, by omega, rfl⟩
    · exact Or.inl (Or.inl (nI_lt (by omega) (by omega)))
/-! who there is -/
theorem C_hasT_no {σ : Mem} {q : Nat} {I : IV} (h : IC σ q I) {x : Int32} (hx : x < 0 ∨ nI (iT I) ≤ x) : fX1_hasTraveller σ q x = some 0 := by
  unfold fX1_hasTraveller
  rw [h.2.2.2.1]
  rcases hx with e | e
  · rw [if_pos e]
  · by_cases h0 : x < 0
    · rw [if_pos h0]
    · rw [if_neg h0, if_pos e]
theorem C_hasT_yes {σ : Mem} {q : Nat} {I : IV} (h : IC σ q I) (ok : IOK I) {t : Nat} (ht : t < iT I) : fX1_hasTraveller σ q (nI t) = some 1 := by
  have := ok.2.2.2.1
  unfold fX1_hasTraveller
  rw [h.2.2.2.1, if_neg (nI_pos (by omega)), iteLE (by omega) (by omega), if_neg (by omega)]
theorem C_hasK_no {σ : Mem} {q : Nat} {I : IV} (h : IC σ q I) {x : Int32} (hx : x < 0 ∨ nI (iK I) ≤ x) : fX1_hasClerk σ q x = some 0 := by
  unfold fX1_hasClerk
  rw [h.2.2.2.2.1]
  rcases hx with e | e
  · rw [if_pos e]
  · by_cases h0 : x < 0
    · rw [if_pos h0]
    · rw [if_neg h0, if_pos e]
theorem C_hasK_yes {σ : Mem} {q : Nat} {I : IV} (h : IC σ q I) (ok : IOK I) {t : Nat} (ht : t < iK I) : fX1_hasClerk σ q (nI t) = some 1 := by
  have := ok.2.2.2.2.1
  unfold fX1_hasClerk
  rw [h.2.2.2.2.1, if_neg (nI_pos (by omega)), iteLE (by omega) (by omega), if_neg (by omega)]
theorem C_hasR_no {σ : Mem} {q : Nat} {I : IV} (h : IC σ q I) {x : Int32} (hx : x < 0 ∨ nI (iR I) ≤ x) : fX1_hasRow σ q x = some 0 := by
  unfold fX1_hasRow
  rw [h.2.1]
  rcases hx with e | e
  · rw [if_pos e]
  · by_cases h0 : x < 0
    · rw [if_pos h0]
    · rw [if_neg h0, if_pos e]
theorem C_hasR_yes {σ : Mem} {q : Nat} {I : IV} (h : IC σ q I) (ok : IOK I) {t : Nat} (ht : t < iR I) : fX1_hasRow σ q (nI t) = some 1 := by
  have := ok.2.1
  unfold fX1_hasRow
  rw [h.2.1, if_neg (nI_pos (by omega)), iteLE (by omega) (by omega), if_neg (by omega)]
theorem zb1 : zb 1 = true := by decide
theorem zb0 : zb 0 = true := by decide
theorem M_isT_no {τ : Mem} {I : IV} (h : IMo τ I) (ok : IOK I) {x : Int32} (hx : x < 0 ∨ nI (iT I) ≤ x) : fX6_isTraveller τ 0 x = some 0 := by
  have := ok.2.2.2.1
  unfold fX6_isTraveller
  rw [h.2.2.2.1, in_no (by omega) hx]
  rfl
theorem M_isT_yes {τ : Mem} {I : IV} (h : IMo τ I) (ok : IOK I) {t : Nat} (ht : t < iT I) : fX6_isTraveller τ 0 (nI t) = some 1 := by
  have := ok.2.2.2.1
  unfold fX6_isTraveller
  rw [h.2.2.2.1, in_yes (by omega) ht]
  rfl
theorem M_isK_no {τ : Mem} {I : IV} (h : IMo τ I) (ok : IOK I) {x : Int32} (hx : x < 0 ∨ nI (iK I) ≤ x) : fX6_isClerk τ 0 x = some 0 := by
  have := ok.2.2.2.2.1
  unfold fX6_isClerk
  rw [h.2.2.2.2.1, in_no (by omega) hx]
  rfl
theorem M_isK_yes {τ : Mem} {I : IV} (h : IMo τ I) (ok : IOK I) {t : Nat} (ht : t < iK I) : fX6_isClerk τ 0 (nI t) = some 1 := by
  have := ok.2.2.2.2.1
  unfold fX6_isClerk
  rw [h.2.2.2.2.1, in_yes (by omega) ht]
  rfl
theorem M_isR_no {τ : Mem} {I : IV} (h : IMo τ I) (ok : IOK I) {x : Int32} (hx : x < 0 ∨ nI (iR I) ≤ x) : fX6_isRow τ 0 x = some 0 := by
  have := ok.2.1
  unfold fX6_isRow
  rw [h.2.1, in_no (by omega) hx]
  rfl
theorem M_isR_yes {τ : Mem} {I : IV} (h : IMo τ I) (ok : IOK I) {t : Nat} (ht : t < iR I) : fX6_isRow τ 0 (nI t) = some 1 := by
  have := ok.2.1
  unfold fX6_isRow
  rw [h.2.1, in_yes (by omega) ht]
  rfl
theorem ix3 (x : Int32) {n : Nat} (hn : n < 2147483648) : (x < 0 ∨ nI n ≤ x) ∨ ∃ j, j < n ∧ x = nI j := by
  rcases pk_ix x hn with h | h | h
  · exact Or.inl (Or.inl h)
  · exact Or.inl (Or.inr h)
  · exact Or.inr h
/-! boats -/
theorem remN {a d : Nat} (ha : a < 2147483648) (h0 : 0 < d) (hd : d < 2147483648) : nI a - nI a / nI d * nI d = nI (a % d) := pk_rem ha h0 hd
theorem gdT {α : Type} {x : Option α} {P : Prop} [Decidable P] (h : P) : gd (decide P) x = x := by rw [decide_eq_true h]; rfl
theorem C_boat {σ : Mem} {q : Nat} {I : IV} (h : IC σ q I) (ok : IOK I) {d : Nat} (hd : d < 100000) : fX1_boatSailsOn σ q (nI d) = some (if d % iB I = 0 then 1 else 0) := by
  have hb := ok.2.2.1
  unfold fX1_boatSailsOn
  rw [h.2.2.1, l0, iteLE (by omega) (by omega), if_neg (by omega), gdT (show ¬ nI (iB I) = nI 0 from nI_ne0 (by omega) (by omega)), remN (by omega) (by omega) (by omega), iteE (by have := Nat.mod_lt d (show 0 < iB I by omega); omega) (by omega)]
  split <;> rfl
theorem M_boat {τ : Mem} {I : IV} (h : IMo τ I) (ok : IOK I) {d : Nat} (hd : d < 100000) : fX6_sailsOn τ 0 (nI d) = some (if d % iB I = 0 then 1 else 0) := by
  have hb := ok.2.2.1
  unfold fX6_sailsOn
  rw [h.2.2.1, gdT (nI_ne0 (by omega) (by omega)), remN (by omega) (by omega) (by omega), l0, iteE (by have := Nat.mod_lt d (show 0 < iB I by omega); omega) (by omega)]
  split <;> rfl
/-! who may leave, who is gone -/
theorem neg9 {n : Nat} (h : n < 2147483648) : ¬ nI n = -9 := by
  intro e
  have := congrArg Int32.toInt e
  rw [nI_toInt h, show (-9 : Int32).toInt = -9 from rfl] at this
  omega
theorem M_rowN {f : Nat → Int32} {N : NV} (h : NM f N) {t : Nat} (ht : t < 6) : (f (2 + t) = -9) = ¬ vR N t < 3 := by
  rw [h.2.2.1 t ht]
  by_cases e : vR N t < 3
  · rw [if_pos e]; exact propext ⟨fun q => absurd q (neg9 (by omega)), fun q => absurd e q⟩
  · rw [if_neg e]; exact propext ⟨fun _ => e, fun _ => rfl⟩
theorem M_mayLeave {τ : Mem} {I : IV} {N : NV} (h : IMo τ I) (ok : IOK I) (hN : NM (mA τ 0 7) N) (hy : ∀ r, r < 3 → vY N r ≤ vD N) (hd : vD N ≤ 200) {t : Nat} (ht : t < 6) : fX6_mayLeave τ 0 (nI t) = some (if leave N (iH I) 0 t = true then 1 else 0) := by
  have hh := ok.1
  unfold fX6_mayLeave
  rw [show (2 : Int32) = nI 2 from rfl, show (8 : Int32) = nI 8 from rfl, nI_add, nI_add, gd_in (by omega) (by decide), gd_in (by omega) (by decide), clampN (by omega), clampN (by omega), h.1]
  simp only [M_rowN hN ht]
  unfold leave
  by_cases e : vR N t < 3
  · have := hy _ e
    rw [if_neg (fun q => q e), hN.2.2.2.1 t ht, if_pos e, iteL (by omega) (by omega)]
    by_cases e2 : vY N (vR N t) < iH I
    · rw [if_pos e2, if_neg]
      simp [e]; omega
    · rw [if_neg e2, if_pos]
      simp [e]; omega
  · rw [if_pos e, if_neg]
    simp [e]
theorem bs6_z (b : Nat → Bool) : nI (bs6 b) ||| 0 = nI (bs6 b) := by
  rw [l0, bs6_0N, bs6_oo]
  exact congrArg nI (bs6_c (fun j _ => Bool.or_false _))
theorem M_leavers_l {τ : Mem} {I : IV} {N : NV} (h : IMo τ I) (ok : IOK I) (hN : NM (mA τ 0 7) N) (hok : NOK N (iT I) (iR I)) : ∀ (d i n : Nat), i + d = iT I → d < n → fX6_leavers_4 τ 0 n (nI (bs6 (fun t => decide (t < i) && leave N (iH I) 0 t))) (nI i) = some (nI (bs6 (leave N (iH I) 0))) := by
  have hT := ok.2.2.2.1
  intro d
  induction d with
  | zero =>
    intro i n hi hn
    obtain ⟨n, rfl⟩ : ∃ m, n = m + 1 := ⟨n - 1, by omega⟩
    rw [fX6_leavers_4.eq_2, h.2.2.2.1, iteLE (by omega) (by omega), if_pos (by omega)]
    refine congrArg some (congrArg nI (bs6_c (fun j hj => ?_)))
    by_cases e : j < i
    · simp [e]
    · have := (hok.2.2.1 j (by omega)).1
      simp [e, leave, this]
  | succ d ih =>
    intro i n hi hn
    obtain ⟨n, rfl⟩ : ∃ m, n = m + 1 := ⟨n - 1, by omega⟩
    rw [fX6_leavers_4.eq_2, h.2.2.2.1, iteLE (by omega) (by omega), if_neg (by omega), M_mayLeave h ok hN hok.2.2.2.1 hok.1 (by omega), bd_s]
    have hnx := ih (i + 1) n (by omega) (by omega)
    rw [nI_1]
    by_cases e : leave N (iH I) 0 i = true
    · rw [if_pos e, if_neg (by decide), bs6_or _ (by omega), ← hnx]
      refine congrArg (fun z => fX6_leavers_4 τ 0 n z (nI (i + 1))) (congrArg nI (bs6_c (fun j hj => ?_)))
      by_cases ej : j = i
      · subst ej; simp [e]
      · simp [ej, show (j < i + 1) = (j < i) from propext ⟨fun q => by omega, fun q => by omega⟩]
    · rw [if_neg e, if_pos rfl, bs6_z, ← hnx]
      refine congrArg (fun z => fX6_leavers_4 τ 0 n z (nI (i + 1))) (congrArg nI (bs6_c (fun j hj => ?_)))
      by_cases ej : j = i
      · subst ej; simp [e]
      · simp [ej, show (j < i + 1) = (j < i) from propext ⟨fun q => by omega, fun q => by omega⟩]
theorem M_leavers {τ : Mem} {I : IV} {N : NV} (h : IMo τ I) (ok : IOK I) (hN : NM (mA τ 0 7) N) (hok : NOK N (iT I) (iR I)) : fX6_leavers τ 0 = some (nI (bs6 (leave N (iH I) 0))) := by
  have hT := ok.2.2.2.1
  have e := M_leavers_l h ok hN hok (iT I) 0 FU (by omega) (by show _ < 1000; omega)
  unfold fX6_leavers
  rw [← e]
  rfl
theorem sh_bit_k : ∀ (b0 b1 b2 b3 b4 b5 g : Bool) (t : Fin 6), nI (bs6 (bf b0 b1 b2 b3 b4 b5)) ||| ((if g = true then (1 : Int32) else 0) <<< (nI t.val &&& 31)) = nI (bs6 (fun j => bf b0 b1 b2 b3 b4 b5 j || (decide (j = t.val) && g))) := by decide +kernel
theorem sh_bit (b : Nat → Bool) (g : Bool) {t : Nat} (h : t < 6) : nI (bs6 b) ||| ((if g = true then (1 : Int32) else 0) <<< (nI t &&& 31)) = nI (bs6 (fun j => b j || (decide (j = t) && g))) := by
  rw [bs6_f, sh_bit_k _ _ _ _ _ _ _ ⟨t, h⟩]
  exact congrArg nI (bs6_c (fun j hj => by rw [bf_at b hj]))
theorem M_gone_l {τ : Mem} {I : IV} {N : NV} (h : IMo τ I) (ok : IOK I) (hN : NM (mA τ 0 7) N) (hg : ∀ t, iT I ≤ t → vG N t = false) : ∀ (d i n : Nat), i + d = iT I → d < n → fX6_goneSet_4 τ 0 n (nI (bs6 (fun t => decide (t < i) && vG N t))) (nI i) = some (nI (bs6 (vG N))) := by
  have hT := ok.2.2.2.1
  intro d
  induction d with
  | zero =>
    intro i n hi hn
    obtain ⟨n, rfl⟩ : ∃ m, n = m + 1 := ⟨n - 1, by omega⟩
    rw [fX6_goneSet_4.eq_2, h.2.2.2.1, iteLE (by omega) (by omega), if_pos (by omega)]
    refine congrArg some (congrArg nI (bs6_c (fun j hj => ?_)))
    by_cases e : j < i
    · simp [e]
    · simp [e, hg j (by omega)]
  | succ d ih =>
    intro i n hi hn
    obtain ⟨n, rfl⟩ : ∃ m, n = m + 1 := ⟨n - 1, by omega⟩
    have hnx := ih (i + 1) n (by omega) (by omega)
    rw [fX6_goneSet_4.eq_2, h.2.2.2.1, iteLE (by omega) (by omega), if_neg (by omega), show (14 : Int32) = nI 14 from rfl, nI_add, gd_in (by omega) (by decide), clampN (by omega), hN.2.2.2.2.1 i (by omega), sh_bit _ _ (by omega), nI_1, ← hnx]
    refine congrArg (fun z => fX6_goneSet_4 τ 0 n z (nI (i + 1))) (congrArg nI (bs6_c (fun j hj => ?_)))
    by_cases ej : j = i
    · subst ej; simp
    · simp [ej, show (j < i + 1) = (j < i) from propext ⟨fun q => by omega, fun q => by omega⟩]
theorem M_gone {τ : Mem} {I : IV} {N : NV} (h : IMo τ I) (ok : IOK I) (hN : NM (mA τ 0 7) N) (hg : ∀ t, iT I ≤ t → vG N t = false) : fX6_goneSet τ 0 = some (nI (bs6 (vG N))) := by
  have hT := ok.2.2.2.1
  have e := M_gone_l h ok hN hg (iT I) 0 FU (by omega) (by show _ < 1000; omega)
  unfold fX6_goneSet
  rw [← e]
  rfl

/-! type, clear -/
theorem C_type_no {σ : Mem} {x : Int32} (hx : x < nI 0 ∨ nI 255 < x) : fX5_type σ 0 x = some (-1, σ) := by
  unfold fX5_type
  rcases hx with e | e
  · rw [if_pos (show x < 0 from e)]
  · by_cases e0 : x < 0
    · rw [if_pos e0]
    · rw [if_neg e0, if_neg (show ¬ x ≤ 255 from Int32.not_le.mpr e)]
theorem op_type {σ τ : Mem} (h : Rel σ τ) (x1 : Int32) : ∃ (r : Int32) (σ' : Mem) (τ' : Mem), fX5_type σ 0 x1 = some (r, σ') ∧ fX6_type τ 0 x1 = some (r, τ') ∧ Rel σ' τ' := by
  obtain ⟨A, q, q2, ok, hC, hM⟩ := id h
  have h0 : mP σ 0 0 = 1 := hC.1.1
  have hx0 : mI σ 1 0 = nI (aTx A).1 := hC.2.2.1.1
  have hm0 : mI τ 0 18 = nI (aTx A).1 := hM.2.1.1
  have hn := ok.2.1.1
  rcases pk_rng x1 (a := 0) (b := 255) (by decide) (by decide) with hx | ⟨j, -, hj, rfl⟩
  · refine ⟨-1, σ, τ, C_type_no hx, ?_, h⟩
    unfold fX6_type
    rw [show fX6_in x1 0 255 = some 0 from inr_no hx]
    rfl
  · by_cases e : (aTx A).1 = 200
    · refine ⟨-3, σ, τ, ?_, ?_, h⟩
      · simp (disch := omega) only [fX5_type, fX4_append, stp_s, bd_s, bd2_s, gd_t, gd_in, clampN, fa_lit, ofN, nI_add, pk_mul, leN, ltN, eqN, eqNg, gNeq, gNlt, gNle, ltNg, leNg, gg, mI_sI, mI_sL, mI_sP, mI_sA, mI_sB, mL_sI, mL_sL, mL_sP, mL_sA, mL_sB, mP_sI, mP_sL, mP_sP, mP_sA, mP_sB, mA_sI, mA_sL, mA_sP, mA_sAg, mA_sB, mB_sI, mB_sL, mB_sP, mB_sA, mB_sBg, mE_sI, mE_sL, mE_sP, mE_sA, mE_sB, Nat.reduceEqDiff, Nat.reduceAdd, Nat.reduceMul, Nat.reduceSub, Nat.reduceLT, Nat.reduceLeDiff, Nat.reduceDiv, Nat.reduceMod, Nat.reduceBEq, and_true, true_and, and_false, false_and, and_self, ite_true, ite_false, if_true, if_false, reduceIte, eq_self, not_true, not_false_eq_true, Bool.true_and, Bool.and_true, Bool.false_and, Bool.and_false, Bool.or_true, Bool.true_or, Bool.or_false, Bool.false_or, Bool.not_true, Bool.not_false, reduceCtorEq, upd_e, Nat.add_eq_zero_iff, Nat.add_right_cancel_iff, Nat.add_left_cancel_iff, decide_true, decide_false, Bool.false_eq_true, decide_eq_true_eq, h0, hx0, e, hj, Nat.not_lt_zero]
      · simp (disch := omega) only [fX6_type, inr_yes, stp_s, bd_s, bd2_s, gd_t, gd_in, clampN, fa_lit, ofN, nI_add, pk_mul, leN, ltN, eqN, eqNg, gNeq, gNlt, gNle, ltNg, leNg, gg, mI_sI, mI_sL, mI_sP, mI_sA, mI_sB, mL_sI, mL_sL, mL_sP, mL_sA, mL_sB, mP_sI, mP_sL, mP_sP, mP_sA, mP_sB, mA_sI, mA_sL, mA_sP, mA_sAg, mA_sB, mB_sI, mB_sL, mB_sP, mB_sA, mB_sBg, mE_sI, mE_sL, mE_sP, mE_sA, mE_sB, Nat.reduceEqDiff, Nat.reduceAdd, Nat.reduceMul, Nat.reduceSub, Nat.reduceLT, Nat.reduceLeDiff, Nat.reduceDiv, Nat.reduceMod, Nat.reduceBEq, and_true, true_and, and_false, false_and, and_self, ite_true, ite_false, if_true, if_false, reduceIte, eq_self, not_true, not_false_eq_true, Bool.true_and, Bool.and_true, Bool.false_and, Bool.and_false, Bool.or_true, Bool.true_or, Bool.or_false, Bool.false_or, Bool.not_true, Bool.not_false, reduceCtorEq, upd_e, Nat.add_eq_zero_iff, Nat.add_right_cancel_iff, Nat.add_left_cancel_iff, decide_true, decide_false, Bool.false_eq_true, decide_eq_true_eq, hm0, e]
    · have hl : (aTx A).1 < 200 := by omega
      refine ⟨nI ((aTx A).1 + 1), sI (sA σ 1 1 (aTx A).1 (nI j)) 1 0 (nI ((aTx A).1 + 1)), sI (sA τ 0 17 (aTx A).1 (nI j)) 0 18 (nI ((aTx A).1 + 1)), ?_, ?_, ?_⟩
      · simp (disch := omega) only [fX5_type, fX4_append, stp_s, bd_s, bd2_s, gd_t, gd_in, clampN, fa_lit, ofN, nI_add, pk_mul, leN, ltN, eqN, eqNg, gNeq, gNlt, gNle, ltNg, leNg, gg, mI_sI, mI_sL, mI_sP, mI_sA, mI_sB, mL_sI, mL_sL, mL_sP, mL_sA, mL_sB, mP_sI, mP_sL, mP_sP, mP_sA, mP_sB, mA_sI, mA_sL, mA_sP, mA_sAg, mA_sB, mB_sI, mB_sL, mB_sP, mB_sA, mB_sBg, mE_sI, mE_sL, mE_sP, mE_sA, mE_sB, Nat.reduceEqDiff, Nat.reduceAdd, Nat.reduceMul, Nat.reduceSub, Nat.reduceLT, Nat.reduceLeDiff, Nat.reduceDiv, Nat.reduceMod, Nat.reduceBEq, and_true, true_and, and_false, false_and, and_self, ite_true, ite_false, if_true, if_false, reduceIte, eq_self, not_true, not_false_eq_true, Bool.true_and, Bool.and_true, Bool.false_and, Bool.and_false, Bool.or_true, Bool.true_or, Bool.or_false, Bool.false_or, Bool.not_true, Bool.not_false, reduceCtorEq, upd_e, Nat.add_eq_zero_iff, Nat.add_right_cancel_iff, Nat.add_left_cancel_iff, decide_true, decide_false, Bool.false_eq_true, decide_eq_true_eq, h0, hx0, hl, hj, Nat.not_lt_zero]
      · simp (disch := omega) only [fX6_type, inr_yes, stp_s, bd_s, bd2_s, gd_t, gd_in, clampN, fa_lit, ofN, nI_add, pk_mul, leN, ltN, eqN, eqNg, gNeq, gNlt, gNle, ltNg, leNg, gg, mI_sI, mI_sL, mI_sP, mI_sA, mI_sB, mL_sI, mL_sL, mL_sP, mL_sA, mL_sB, mP_sI, mP_sL, mP_sP, mP_sA, mP_sB, mA_sI, mA_sL, mA_sP, mA_sAg, mA_sB, mB_sI, mB_sL, mB_sP, mB_sA, mB_sBg, mE_sI, mE_sL, mE_sP, mE_sA, mE_sB, Nat.reduceEqDiff, Nat.reduceAdd, Nat.reduceMul, Nat.reduceSub, Nat.reduceLT, Nat.reduceLeDiff, Nat.reduceDiv, Nat.reduceMod, Nat.reduceBEq, and_true, true_and, and_false, false_and, and_self, ite_true, ite_false, if_true, if_false, reduceIte, eq_self, not_true, not_false_eq_true, Bool.true_and, Bool.and_true, Bool.false_and, Bool.and_false, Bool.or_true, Bool.true_or, Bool.or_false, Bool.false_or, Bool.not_true, Bool.not_false, reduceCtorEq, upd_e, Nat.add_eq_zero_iff, Nat.add_right_cancel_iff, Nat.add_left_cancel_iff, decide_true, decide_false, Bool.false_eq_true, decide_eq_true_eq, hm0, e]
      · refine ⟨wX A ((aTx A).1 + 1, fun i => if i = (aTx A).1 then j else (aTx A).2 i), q, q2, ?_, ?_, ?_⟩
        · obtain ⟨o1, o2, o3, o4, o5, o6, o7⟩ := ok
          refine ⟨o1, ⟨by show _ + 1 ≤ 200; omega, fun i hi => ?_⟩, o3, o4, o5, o6, o7⟩
          show (if i = (aTx A).1 then j else (aTx A).2 i) < 256
          have hi : i < (aTx A).1 + 1 := hi
          split
          · omega
          · exact o2.2 i (by omega)
        · obtain ⟨h1, h2, h3, h4, h5, h6, h7, h8⟩ := id hC
          have hq := hC.q
          have hs : sameX (fun o _ => o = 1) σ (sI (sA σ 1 1 (aTx A).1 (nI j)) 1 0 (nI ((aTx A).1 + 1))) := by repeat (first | exact sameX.rf | refine sameX.sI ?_ (by first | rfl | exact Or.inl rfl | exact Or.inr rfl | trivial | decide | omega | simp) _ | refine sameX.sA ?_ (by first | rfl | exact Or.inl rfl | exact Or.inr rfl | trivial | decide | omega | simp) _ _ | refine sameX.sL ?_ (by first | rfl | exact Or.inl rfl | exact Or.inr rfl | trivial | decide | omega | simp) _ | refine sameX.sP ?_ (by first | rfl | exact Or.inl rfl | exact Or.inr rfl | trivial | decide | omega | simp) _ | refine sameX.sB ?_ (by first | rfl | exact Or.inl rfl | exact Or.inr rfl | trivial | decide | omega | simp) _ _)
          refine ⟨h1.keep hs (fun k hk => by omega) ⟨by omega, by omega⟩, h2.keep hs (fun k => by omega), ⟨?_, fun i hi => ?_⟩, h4.keep hs (fun k => by omega), h5.keep hs (by omega) (fun j hj k => by omega), h6.keep hs ⟨by omega, by omega⟩ (fun j hj k => by omega), h7.keep hs ⟨by omega, by omega, by omega⟩, by rw [(hs 0 13 (by omega)).2.1]; exact h8⟩
          · simp only [mI_sI, mI_sL, mI_sP, mI_sA, mI_sB, mL_sI, mL_sL, mL_sP, mL_sA, mL_sB, mP_sI, mP_sL, mP_sP, mP_sA, mP_sB, mA_sI, mA_sL, mA_sP, mA_sAg, mA_sB, mB_sI, mB_sL, mB_sP, mB_sA, mB_sBg, mE_sI, mE_sL, mE_sP, mE_sA, mE_sB, Nat.reduceEqDiff, Nat.reduceAdd, Nat.reduceMul, Nat.reduceSub, Nat.reduceLT, Nat.reduceLeDiff, Nat.reduceDiv, Nat.reduceMod, Nat.reduceBEq, and_true, true_and, and_false, false_and, and_self, ite_true, ite_false, if_true, if_false, reduceIte, eq_self, not_true, not_false_eq_true, Bool.true_and, Bool.and_true, Bool.false_and, Bool.and_false, Bool.or_true, Bool.true_or, Bool.or_false, Bool.false_or, Bool.not_true, Bool.not_false, reduceCtorEq, upd_e, Nat.add_eq_zero_iff, Nat.add_right_cancel_iff, Nat.add_left_cancel_iff]; rfl
          · simp only [mI_sI, mI_sL, mI_sP, mI_sA, mI_sB, mL_sI, mL_sL, mL_sP, mL_sA, mL_sB, mP_sI, mP_sL, mP_sP, mP_sA, mP_sB, mA_sI, mA_sL, mA_sP, mA_sAg, mA_sB, mB_sI, mB_sL, mB_sP, mB_sA, mB_sBg, mE_sI, mE_sL, mE_sP, mE_sA, mE_sB, Nat.reduceEqDiff, Nat.reduceAdd, Nat.reduceMul, Nat.reduceSub, Nat.reduceLT, Nat.reduceLeDiff, Nat.reduceDiv, Nat.reduceMod, Nat.reduceBEq, and_true, true_and, and_false, false_and, and_self, ite_true, ite_false, if_true, if_false, reduceIte, eq_self, not_true, not_false_eq_true, Bool.true_and, Bool.and_true, Bool.false_and, Bool.and_false, Bool.or_true, Bool.true_or, Bool.or_false, Bool.false_or, Bool.not_true, Bool.not_false, reduceCtorEq, upd_e, Nat.add_eq_zero_iff, Nat.add_right_cancel_iff, Nat.add_left_cancel_iff]
            have hi : i < (aTx A).1 + 1 := hi
            show _ = nI (if i = (aTx A).1 then j else (aTx A).2 i)
            split
            · rfl
            · exact h3.2 i (by omega)
        · obtain ⟨h1, h2, h3, h4, h5, h6, h7⟩ := id hM
          have hs : sameX (fun _ k => k = 17 ∨ k = 18) τ (sI (sA τ 0 17 (aTx A).1 (nI j)) 0 18 (nI ((aTx A).1 + 1))) := by repeat (first | exact sameX.rf | refine sameX.sI ?_ (by first | rfl | exact Or.inl rfl | exact Or.inr rfl | trivial | decide | omega | simp) _ | refine sameX.sA ?_ (by first | rfl | exact Or.inl rfl | exact Or.inr rfl | trivial | decide | omega | simp) _ _ | refine sameX.sL ?_ (by first | rfl | exact Or.inl rfl | exact Or.inr rfl | trivial | decide | omega | simp) _ | refine sameX.sP ?_ (by first | rfl | exact Or.inl rfl | exact Or.inr rfl | trivial | decide | omega | simp) _ | refine sameX.sB ?_ (by first | rfl | exact Or.inl rfl | exact Or.inr rfl | trivial | decide | omega | simp) _ _)
          refine ⟨h1.keep hs (fun k hk => by omega), ⟨?_, fun i hi => ?_⟩, by rw [(hs 0 7 (by omega)).2.2.2.1]; exact h3, h4.keep hs ⟨by omega, by omega⟩, h5.keep hs ⟨by omega, by omega⟩, h6.keep hs (fun k _ _ => by omega), by rw [(hs 0 16 (by omega)).2.1]; exact h7⟩
          · simp only [mI_sI, mI_sL, mI_sP, mI_sA, mI_sB, mL_sI, mL_sL, mL_sP, mL_sA, mL_sB, mP_sI, mP_sL, mP_sP, mP_sA, mP_sB, mA_sI, mA_sL, mA_sP, mA_sAg, mA_sB, mB_sI, mB_sL, mB_sP, mB_sA, mB_sBg, mE_sI, mE_sL, mE_sP, mE_sA, mE_sB, Nat.reduceEqDiff, Nat.reduceAdd, Nat.reduceMul, Nat.reduceSub, Nat.reduceLT, Nat.reduceLeDiff, Nat.reduceDiv, Nat.reduceMod, Nat.reduceBEq, and_true, true_and, and_false, false_and, and_self, ite_true, ite_false, if_true, if_false, reduceIte, eq_self, not_true, not_false_eq_true, Bool.true_and, Bool.and_true, Bool.false_and, Bool.and_false, Bool.or_true, Bool.true_or, Bool.or_false, Bool.false_or, Bool.not_true, Bool.not_false, reduceCtorEq, upd_e, Nat.add_eq_zero_iff, Nat.add_right_cancel_iff, Nat.add_left_cancel_iff]; rfl
          · simp only [mI_sI, mI_sL, mI_sP, mI_sA, mI_sB, mL_sI, mL_sL, mL_sP, mL_sA, mL_sB, mP_sI, mP_sL, mP_sP, mP_sA, mP_sB, mA_sI, mA_sL, mA_sP, mA_sAg, mA_sB, mB_sI, mB_sL, mB_sP, mB_sA, mB_sBg, mE_sI, mE_sL, mE_sP, mE_sA, mE_sB, Nat.reduceEqDiff, Nat.reduceAdd, Nat.reduceMul, Nat.reduceSub, Nat.reduceLT, Nat.reduceLeDiff, Nat.reduceDiv, Nat.reduceMod, Nat.reduceBEq, and_true, true_and, and_false, false_and, and_self, ite_true, ite_false, if_true, if_false, reduceIte, eq_self, not_true, not_false_eq_true, Bool.true_and, Bool.and_true, Bool.false_and, Bool.and_false, Bool.or_true, Bool.true_or, Bool.or_false, Bool.false_or, Bool.not_true, Bool.not_false, reduceCtorEq, upd_e, Nat.add_eq_zero_iff, Nat.add_right_cancel_iff, Nat.add_left_cancel_iff]
            have hi : i < (aTx A).1 + 1 := hi
            show _ = nI (if i = (aTx A).1 then j else (aTx A).2 i)
            split
            · rfl
            · exact h2.2 i (by omega)
theorem op_clear {σ τ : Mem} (h : Rel σ τ)  : ∃ (r : Int32) (σ' : Mem) (τ' : Mem), fX5_clear σ 0  = some (r, σ') ∧ fX6_clear τ 0  = some (r, τ') ∧ Rel σ' τ' := by
  obtain ⟨A, q, q2, ok, hC, hM⟩ := id h
  have h0 : mP σ 0 0 = 1 := hC.1.1
  refine ⟨nI (aTx A).1, sI σ 1 0 0, sI τ 0 18 0, ?_, ?_, wX A (0, fun _ => 0), q, q2, ?_, ?_, ?_⟩
  · simp only [fX5_clear, stp_s, bd_s, bd2_s, gd_t, h0, hC.2.2.1.1]
  · simp only [fX6_clear, stp_s, bd_s, bd2_s, gd_t, hM.2.1.1]
  · obtain ⟨o1, o2, o3, o4, o5, o6, o7⟩ := ok
    exact ⟨o1, ⟨Nat.zero_le _, fun i hi => absurd hi (Nat.not_lt_zero i)⟩, o3, o4, o5, o6, o7⟩
  · obtain ⟨h1, h2, h3, h4, h5, h6, h7, h8⟩ := id hC
    have hq := hC.q
    have hs : sameX (fun o _ => o = 1) σ (sI σ 1 0 0) := by repeat (first | exact sameX.rf | refine sameX.sI ?_ (by first | rfl | exact Or.inl rfl | exact Or.inr rfl | trivial | decide | omega | simp) _ | refine sameX.sA ?_ (by first | rfl | exact Or.inl rfl | exact Or.inr rfl | trivial | decide | omega | simp) _ _ | refine sameX.sL ?_ (by first | rfl | exact Or.inl rfl | exact Or.inr rfl | trivial | decide | omega | simp) _ | refine sameX.sP ?_ (by first | rfl | exact Or.inl rfl | exact Or.inr rfl | trivial | decide | omega | simp) _ | refine sameX.sB ?_ (by first | rfl | exact Or.inl rfl | exact Or.inr rfl | trivial | decide | omega | simp) _ _)
    exact ⟨h1.keep hs (fun k hk => by omega) ⟨by omega, by omega⟩, h2.keep hs (fun k => by omega), ⟨rfl, fun i hi => absurd hi (Nat.not_lt_zero i)⟩, h4.keep hs (fun k => by omega), h5.keep hs (by omega) (fun j hj k => by omega), h6.keep hs ⟨by omega, by omega⟩ (fun j hj k => by omega), h7.keep hs ⟨by omega, by omega, by omega⟩, by rw [(hs 0 13 (by omega)).2.1]; exact h8⟩
  · obtain ⟨h1, h2, h3, h4, h5, h6, h7⟩ := id hM
    have hs : sameX (fun _ k => k = 17 ∨ k = 18) τ (sI τ 0 18 0) := by repeat (first | exact sameX.rf | refine sameX.sI ?_ (by first | rfl | exact Or.inl rfl | exact Or.inr rfl | trivial | decide | omega | simp) _ | refine sameX.sA ?_ (by first | rfl | exact Or.inl rfl | exact Or.inr rfl | trivial | decide | omega | simp) _ _ | refine sameX.sL ?_ (by first | rfl | exact Or.inl rfl | exact Or.inr rfl | trivial | decide | omega | simp) _ | refine sameX.sP ?_ (by first | rfl | exact Or.inl rfl | exact Or.inr rfl | trivial | decide | omega | simp) _ | refine sameX.sB ?_ (by first | rfl | exact Or.inl rfl | exact Or.inr rfl | trivial | decide | omega | simp) _ _)
    exact ⟨h1.keep hs (fun k hk => by omega), ⟨rfl, fun i hi => absurd hi (Nat.not_lt_zero i)⟩, by rw [(hs 0 7 (by omega)).2.2.2.1]; exact h3, h4.keep hs ⟨by omega, by omega⟩, h5.keep hs ⟨by omega, by omega⟩, h6.keep hs (fun k _ _ => by omega), by rw [(hs 0 16 (by omega)).2.1]; exact h7⟩
/-! traveller, clerk, now, waits -/
theorem lit_cases (x : Int32) {n : Nat} (hn : n < 100) : (∀ j, j ≤ n → ¬ x = nI j) ∨ ∃ j, j ≤ n ∧ x = nI j := by
  by_cases h : ∃ j, j ≤ n ∧ x = nI j
  · exact Or.inr h
  · exact Or.inl (fun j hj e => h ⟨j, hj, e⟩)
theorem out_of {x : Int32} {n : Nat} (hn : n < 100) (h : ∀ j, j ≤ n → ¬ x = nI j) : x < nI 0 ∨ nI n < x := by
  rcases pk_rng x (a := 0) (b := n) (by decide) (by omega) with e | ⟨j, -, hj, e⟩
  · exact e
  · exact absurd e (h j hj)
theorem op_traveller {σ τ : Mem} (h : Rel σ τ) (x1 : Int32) (x2 : Int32) : ∃ (r : Int32), fX5_traveller σ 0 x1 x2 = some r ∧ fX6_traveller τ 0 x1 x2 = some r := by
  obtain ⟨A, q, q2, ok, hC, hM⟩ := id h
  have hP1 : mP σ 0 1 = q := hC.1.2.2.2.2.1
  have hP3 : mP σ 0 3 = 4 := hC.1.2.1
  have hI := hC.2.1
  have hN := hC.2.2.2.1
  have hT := ok.1.2.2.2.1
  rcases ix3 x1 (n := iT (aI A)) (by omega) with hx | ⟨t, ht, rfl⟩
  · refine ⟨-1, ?_, ?_⟩
    · simp (disch := omega) only [fX5_traveller, hP1, C_hasT_no hI hx, stp_s, bd_s, bd2_s, gd_t, gd_in, clampN, fa_lit, ofN, nI_add, pk_mul, leN, ltN, eqN, eqNg, gNeq, gNlt, gNle, ltNg, leNg, gg, mI_sI, mI_sL, mI_sP, mI_sA, mI_sB, mL_sI, mL_sL, mL_sP, mL_sA, mL_sB, mP_sI, mP_sL, mP_sP, mP_sA, mP_sB, mA_sI, mA_sL, mA_sP, mA_sAg, mA_sB, mB_sI, mB_sL, mB_sP, mB_sA, mB_sBg, mE_sI, mE_sL, mE_sP, mE_sA, mE_sB, Nat.reduceEqDiff, Nat.reduceAdd, Nat.reduceMul, Nat.reduceSub, Nat.reduceLT, Nat.reduceLeDiff, Nat.reduceDiv, Nat.reduceMod, Nat.reduceBEq, and_true, true_and, and_false, false_and, and_self, ite_true, ite_false, if_true, if_false, reduceIte, eq_self, not_true, not_false_eq_true, Bool.true_and, Bool.and_true, Bool.false_and, Bool.and_false, Bool.or_true, Bool.true_or, Bool.or_false, Bool.false_or, Bool.not_true, Bool.not_false, reduceCtorEq, upd_e, Nat.add_eq_zero_iff, Nat.add_right_cancel_iff, Nat.add_left_cancel_iff, decide_true, decide_false, Bool.false_eq_true, decide_eq_true_eq]
    · simp (disch := omega) only [fX6_traveller, M_isT_no hM.1 ok.1 hx, stp_s, bd_s, bd2_s, gd_t, gd_in, clampN, fa_lit, ofN, nI_add, pk_mul, leN, ltN, eqN, eqNg, gNeq, gNlt, gNle, ltNg, leNg, gg, mI_sI, mI_sL, mI_sP, mI_sA, mI_sB, mL_sI, mL_sL, mL_sP, mL_sA, mL_sB, mP_sI, mP_sL, mP_sP, mP_sA, mP_sB, mA_sI, mA_sL, mA_sP, mA_sAg, mA_sB, mB_sI, mB_sL, mB_sP, mB_sA, mB_sBg, mE_sI, mE_sL, mE_sP, mE_sA, mE_sB, Nat.reduceEqDiff, Nat.reduceAdd, Nat.reduceMul, Nat.reduceSub, Nat.reduceLT, Nat.reduceLeDiff, Nat.reduceDiv, Nat.reduceMod, Nat.reduceBEq, and_true, true_and, and_false, false_and, and_self, ite_true, ite_false, if_true, if_false, reduceIte, eq_self, not_true, not_false_eq_true, Bool.true_and, Bool.and_true, Bool.false_and, Bool.and_false, Bool.or_true, Bool.true_or, Bool.or_false, Bool.false_or, Bool.not_true, Bool.not_false, reduceCtorEq, upd_e, Nat.add_eq_zero_iff, Nat.add_right_cancel_iff, Nat.add_left_cancel_iff, decide_true, decide_false, Bool.false_eq_true, decide_eq_true_eq]
  · have ht6 : t < 6 := by omega
    have hr3 := (ok.2.2.1.2.1 t ht6).1
    rcases lit_cases x2 (n := 4) (by decide) with hn | ⟨j, hj, rfl⟩
    · have h0 := hn 0 (by decide); have h1 := hn 1 (by decide); have h2 := hn 2 (by decide); have h3 := hn 3 (by decide); have h4 := hn 4 (by decide)
      refine ⟨-1, ?_, ?_⟩
      · simp (disch := omega) only [fX5_traveller, hP1, C_hasT_yes hI ok.1 ht, stp_s, bd_s, bd2_s, gd_t, gd_in, clampN, fa_lit, ofN, nI_add, pk_mul, leN, ltN, eqN, eqNg, gNeq, gNlt, gNle, ltNg, leNg, gg, mI_sI, mI_sL, mI_sP, mI_sA, mI_sB, mL_sI, mL_sL, mL_sP, mL_sA, mL_sB, mP_sI, mP_sL, mP_sP, mP_sA, mP_sB, mA_sI, mA_sL, mA_sP, mA_sAg, mA_sB, mB_sI, mB_sL, mB_sP, mB_sA, mB_sBg, mE_sI, mE_sL, mE_sP, mE_sA, mE_sB, Nat.reduceEqDiff, Nat.reduceAdd, Nat.reduceMul, Nat.reduceSub, Nat.reduceLT, Nat.reduceLeDiff, Nat.reduceDiv, Nat.reduceMod, Nat.reduceBEq, and_true, true_and, and_false, false_and, and_self, ite_true, ite_false, if_true, if_false, reduceIte, eq_self, not_true, not_false_eq_true, Bool.true_and, Bool.and_true, Bool.false_and, Bool.and_false, Bool.or_true, Bool.true_or, Bool.or_false, Bool.false_or, Bool.not_true, Bool.not_false, reduceCtorEq, upd_e, Nat.add_eq_zero_iff, Nat.add_right_cancel_iff, Nat.add_left_cancel_iff, decide_true, decide_false, Bool.false_eq_true, decide_eq_true_eq, h0, h1, h2, h3, h4]
      · simp (disch := omega) only [fX6_traveller, M_isT_yes hM.1 ok.1 ht, stp_s, bd_s, bd2_s, gd_t, gd_in, clampN, fa_lit, ofN, nI_add, pk_mul, leN, ltN, eqN, eqNg, gNeq, gNlt, gNle, ltNg, leNg, gg, mI_sI, mI_sL, mI_sP, mI_sA, mI_sB, mL_sI, mL_sL, mL_sP, mL_sA, mL_sB, mP_sI, mP_sL, mP_sP, mP_sA, mP_sB, mA_sI, mA_sL, mA_sP, mA_sAg, mA_sB, mB_sI, mB_sL, mB_sP, mB_sA, mB_sBg, mE_sI, mE_sL, mE_sP, mE_sA, mE_sB, Nat.reduceEqDiff, Nat.reduceAdd, Nat.reduceMul, Nat.reduceSub, Nat.reduceLT, Nat.reduceLeDiff, Nat.reduceDiv, Nat.reduceMod, Nat.reduceBEq, and_true, true_and, and_false, false_and, and_self, ite_true, ite_false, if_true, if_false, reduceIte, eq_self, not_true, not_false_eq_true, Bool.true_and, Bool.and_true, Bool.false_and, Bool.and_false, Bool.or_true, Bool.true_or, Bool.or_false, Bool.false_or, Bool.not_true, Bool.not_false, reduceCtorEq, upd_e, Nat.add_eq_zero_iff, Nat.add_right_cancel_iff, Nat.add_left_cancel_iff, decide_true, decide_false, Bool.false_eq_true, decide_eq_true_eq, inr_no (out_of (by decide) hn)]
    · have e : j = 0 ∨ j = 1 ∨ j = 2 ∨ j = 3 ∨ j = 4 := by omega
      rcases e with rfl | rfl | rfl | rfl | rfl
      · refine ⟨nI (iC (aI A) t), ?_, ?_⟩
        · simp (disch := omega) only [fX5_traveller, hP1, C_hasT_yes hI ok.1 ht, stp_s, bd_s, bd2_s, gd_t, gd_in, clampN, fa_lit, ofN, nI_add, pk_mul, leN, ltN, eqN, eqNg, gNeq, gNlt, gNle, ltNg, leNg, gg, mI_sI, mI_sL, mI_sP, mI_sA, mI_sB, mL_sI, mL_sL, mL_sP, mL_sA, mL_sB, mP_sI, mP_sL, mP_sP, mP_sA, mP_sB, mA_sI, mA_sL, mA_sP, mA_sAg, mA_sB, mB_sI, mB_sL, mB_sP, mB_sA, mB_sBg, mE_sI, mE_sL, mE_sP, mE_sA, mE_sB, Nat.reduceEqDiff, Nat.reduceAdd, Nat.reduceMul, Nat.reduceSub, Nat.reduceLT, Nat.reduceLeDiff, Nat.reduceDiv, Nat.reduceMod, Nat.reduceBEq, and_true, true_and, and_false, false_and, and_self, ite_true, ite_false, if_true, if_false, reduceIte, eq_self, not_true, not_false_eq_true, Bool.true_and, Bool.and_true, Bool.false_and, Bool.and_false, Bool.or_true, Bool.true_or, Bool.or_false, Bool.false_or, Bool.not_true, Bool.not_false, reduceCtorEq, upd_e, Nat.add_eq_zero_iff, Nat.add_right_cancel_iff, Nat.add_left_cancel_iff, decide_true, decide_false, Bool.false_eq_true, decide_eq_true_eq, hI.2.2.2.2.2.1 t ht]
        · simp (disch := omega) only [fX6_traveller, M_isT_yes hM.1 ok.1 ht, stp_s, bd_s, bd2_s, gd_t, gd_in, clampN, fa_lit, ofN, nI_add, pk_mul, leN, ltN, eqN, eqNg, gNeq, gNlt, gNle, ltNg, leNg, gg, mI_sI, mI_sL, mI_sP, mI_sA, mI_sB, mL_sI, mL_sL, mL_sP, mL_sA, mL_sB, mP_sI, mP_sL, mP_sP, mP_sA, mP_sB, mA_sI, mA_sL, mA_sP, mA_sAg, mA_sB, mB_sI, mB_sL, mB_sP, mB_sA, mB_sBg, mE_sI, mE_sL, mE_sP, mE_sA, mE_sB, Nat.reduceEqDiff, Nat.reduceAdd, Nat.reduceMul, Nat.reduceSub, Nat.reduceLT, Nat.reduceLeDiff, Nat.reduceDiv, Nat.reduceMod, Nat.reduceBEq, and_true, true_and, and_false, false_and, and_self, ite_true, ite_false, if_true, if_false, reduceIte, eq_self, not_true, not_false_eq_true, Bool.true_and, Bool.and_true, Bool.false_and, Bool.and_false, Bool.or_true, Bool.true_or, Bool.or_false, Bool.false_or, Bool.not_true, Bool.not_false, reduceCtorEq, upd_e, Nat.add_eq_zero_iff, Nat.add_right_cancel_iff, Nat.add_left_cancel_iff, decide_true, decide_false, Bool.false_eq_true, decide_eq_true_eq, inr_yes, Nat.add_zero, hM.1.2.2.2.2.2.1 t ht]
      · refine ⟨nI (iX (aI A) t), ?_, ?_⟩
        · simp (disch := omega) only [fX5_traveller, hP1, C_hasT_yes hI ok.1 ht, stp_s, bd_s, bd2_s, gd_t, gd_in, clampN, fa_lit, ofN, nI_add, pk_mul, leN, ltN, eqN, eqNg, gNeq, gNlt, gNle, ltNg, leNg, gg, mI_sI, mI_sL, mI_sP, mI_sA, mI_sB, mL_sI, mL_sL, mL_sP, mL_sA, mL_sB, mP_sI, mP_sL, mP_sP, mP_sA, mP_sB, mA_sI, mA_sL, mA_sP, mA_sAg, mA_sB, mB_sI, mB_sL, mB_sP, mB_sA, mB_sBg, mE_sI, mE_sL, mE_sP, mE_sA, mE_sB, Nat.reduceEqDiff, Nat.reduceAdd, Nat.reduceMul, Nat.reduceSub, Nat.reduceLT, Nat.reduceLeDiff, Nat.reduceDiv, Nat.reduceMod, Nat.reduceBEq, and_true, true_and, and_false, false_and, and_self, ite_true, ite_false, if_true, if_false, reduceIte, eq_self, not_true, not_false_eq_true, Bool.true_and, Bool.and_true, Bool.false_and, Bool.and_false, Bool.or_true, Bool.true_or, Bool.or_false, Bool.false_or, Bool.not_true, Bool.not_false, reduceCtorEq, upd_e, Nat.add_eq_zero_iff, Nat.add_right_cancel_iff, Nat.add_left_cancel_iff, decide_true, decide_false, Bool.false_eq_true, decide_eq_true_eq, hI.2.2.2.2.2.2.1 t ht]
        · simp (disch := omega) only [fX6_traveller, M_isT_yes hM.1 ok.1 ht, stp_s, bd_s, bd2_s, gd_t, gd_in, clampN, fa_lit, ofN, nI_add, pk_mul, leN, ltN, eqN, eqNg, gNeq, gNlt, gNle, ltNg, leNg, gg, mI_sI, mI_sL, mI_sP, mI_sA, mI_sB, mL_sI, mL_sL, mL_sP, mL_sA, mL_sB, mP_sI, mP_sL, mP_sP, mP_sA, mP_sB, mA_sI, mA_sL, mA_sP, mA_sAg, mA_sB, mB_sI, mB_sL, mB_sP, mB_sA, mB_sBg, mE_sI, mE_sL, mE_sP, mE_sA, mE_sB, Nat.reduceEqDiff, Nat.reduceAdd, Nat.reduceMul, Nat.reduceSub, Nat.reduceLT, Nat.reduceLeDiff, Nat.reduceDiv, Nat.reduceMod, Nat.reduceBEq, and_true, true_and, and_false, false_and, and_self, ite_true, ite_false, if_true, if_false, reduceIte, eq_self, not_true, not_false_eq_true, Bool.true_and, Bool.and_true, Bool.false_and, Bool.and_false, Bool.or_true, Bool.true_or, Bool.or_false, Bool.false_or, Bool.not_true, Bool.not_false, reduceCtorEq, upd_e, Nat.add_eq_zero_iff, Nat.add_right_cancel_iff, Nat.add_left_cancel_iff, decide_true, decide_false, Bool.false_eq_true, decide_eq_true_eq, inr_yes, hM.1.2.2.2.2.2.2.1 t ht]
      · refine ⟨if vR (aN A) t < 3 then nI (vR (aN A) t) else -9, ?_, ?_⟩
        rotate_left
        · simp (disch := omega) only [fX6_traveller, M_isT_yes hM.1 ok.1 ht, stp_s, bd_s, bd2_s, gd_t, gd_in, clampN, fa_lit, ofN, nI_add, pk_mul, leN, ltN, eqN, eqNg, gNeq, gNlt, gNle, ltNg, leNg, gg, mI_sI, mI_sL, mI_sP, mI_sA, mI_sB, mL_sI, mL_sL, mL_sP, mL_sA, mL_sB, mP_sI, mP_sL, mP_sP, mP_sA, mP_sB, mA_sI, mA_sL, mA_sP, mA_sAg, mA_sB, mB_sI, mB_sL, mB_sP, mB_sA, mB_sBg, mE_sI, mE_sL, mE_sP, mE_sA, mE_sB, Nat.reduceEqDiff, Nat.reduceAdd, Nat.reduceMul, Nat.reduceSub, Nat.reduceLT, Nat.reduceLeDiff, Nat.reduceDiv, Nat.reduceMod, Nat.reduceBEq, and_true, true_and, and_false, false_and, and_self, ite_true, ite_false, if_true, if_false, reduceIte, eq_self, not_true, not_false_eq_true, Bool.true_and, Bool.and_true, Bool.false_and, Bool.and_false, Bool.or_true, Bool.true_or, Bool.or_false, Bool.false_or, Bool.not_true, Bool.not_false, reduceCtorEq, upd_e, Nat.add_eq_zero_iff, Nat.add_right_cancel_iff, Nat.add_left_cancel_iff, decide_true, decide_false, Bool.false_eq_true, decide_eq_true_eq, inr_yes]
          exact congrArg some (hM.2.2.1.2.2.1 t ht6)
        · simp (disch := omega) only [fX5_traveller, hP1, hP3, C_hasT_yes hI ok.1 ht, hN.rowOf ht6 hr3, stp_s, bd_s, bd2_s, gd_t, gd_in, clampN, fa_lit, ofN, nI_add, pk_mul, leN, ltN, eqN, eqNg, gNeq, gNlt, gNle, ltNg, leNg, gg, mI_sI, mI_sL, mI_sP, mI_sA, mI_sB, mL_sI, mL_sL, mL_sP, mL_sA, mL_sB, mP_sI, mP_sL, mP_sP, mP_sA, mP_sB, mA_sI, mA_sL, mA_sP, mA_sAg, mA_sB, mB_sI, mB_sL, mB_sP, mB_sA, mB_sBg, mE_sI, mE_sL, mE_sP, mE_sA, mE_sB, Nat.reduceEqDiff, Nat.reduceAdd, Nat.reduceMul, Nat.reduceSub, Nat.reduceLT, Nat.reduceLeDiff, Nat.reduceDiv, Nat.reduceMod, Nat.reduceBEq, and_true, true_and, and_false, false_and, and_self, ite_true, ite_false, if_true, if_false, reduceIte, eq_self, not_true, not_false_eq_true, Bool.true_and, Bool.and_true, Bool.false_and, Bool.and_false, Bool.or_true, Bool.true_or, Bool.or_false, Bool.false_or, Bool.not_true, Bool.not_false, reduceCtorEq, upd_e, Nat.add_eq_zero_iff, Nat.add_right_cancel_iff, Nat.add_left_cancel_iff, decide_true, decide_false, Bool.false_eq_true, decide_eq_true_eq]
      · refine ⟨if vR (aN A) t < 3 then nI (vY (aN A) (vR (aN A) t)) else 0, ?_, ?_⟩
        rotate_left
        · simp (disch := omega) only [fX6_traveller, M_isT_yes hM.1 ok.1 ht, stp_s, bd_s, bd2_s, gd_t, gd_in, clampN, fa_lit, ofN, nI_add, pk_mul, leN, ltN, eqN, eqNg, gNeq, gNlt, gNle, ltNg, leNg, gg, mI_sI, mI_sL, mI_sP, mI_sA, mI_sB, mL_sI, mL_sL, mL_sP, mL_sA, mL_sB, mP_sI, mP_sL, mP_sP, mP_sA, mP_sB, mA_sI, mA_sL, mA_sP, mA_sAg, mA_sB, mB_sI, mB_sL, mB_sP, mB_sA, mB_sBg, mE_sI, mE_sL, mE_sP, mE_sA, mE_sB, Nat.reduceEqDiff, Nat.reduceAdd, Nat.reduceMul, Nat.reduceSub, Nat.reduceLT, Nat.reduceLeDiff, Nat.reduceDiv, Nat.reduceMod, Nat.reduceBEq, and_true, true_and, and_false, false_and, and_self, ite_true, ite_false, if_true, if_false, reduceIte, eq_self, not_true, not_false_eq_true, Bool.true_and, Bool.and_true, Bool.false_and, Bool.and_false, Bool.or_true, Bool.true_or, Bool.or_false, Bool.false_or, Bool.not_true, Bool.not_false, reduceCtorEq, upd_e, Nat.add_eq_zero_iff, Nat.add_right_cancel_iff, Nat.add_left_cancel_iff, decide_true, decide_false, Bool.false_eq_true, decide_eq_true_eq, inr_yes]
          exact congrArg some (hM.2.2.1.2.2.2.1 t ht6)
        · simp (disch := omega) only [fX5_traveller, hP1, hP3, C_hasT_yes hI ok.1 ht, hN.daysInRow ht6 hr3, stp_s, bd_s, bd2_s, gd_t, gd_in, clampN, fa_lit, ofN, nI_add, pk_mul, leN, ltN, eqN, eqNg, gNeq, gNlt, gNle, ltNg, leNg, gg, mI_sI, mI_sL, mI_sP, mI_sA, mI_sB, mL_sI, mL_sL, mL_sP, mL_sA, mL_sB, mP_sI, mP_sL, mP_sP, mP_sA, mP_sB, mA_sI, mA_sL, mA_sP, mA_sAg, mA_sB, mB_sI, mB_sL, mB_sP, mB_sA, mB_sBg, mE_sI, mE_sL, mE_sP, mE_sA, mE_sB, Nat.reduceEqDiff, Nat.reduceAdd, Nat.reduceMul, Nat.reduceSub, Nat.reduceLT, Nat.reduceLeDiff, Nat.reduceDiv, Nat.reduceMod, Nat.reduceBEq, and_true, true_and, and_false, false_and, and_self, ite_true, ite_false, if_true, if_false, reduceIte, eq_self, not_true, not_false_eq_true, Bool.true_and, Bool.and_true, Bool.false_and, Bool.and_false, Bool.or_true, Bool.true_or, Bool.or_false, Bool.false_or, Bool.not_true, Bool.not_false, reduceCtorEq, upd_e, Nat.add_eq_zero_iff, Nat.add_right_cancel_iff, Nat.add_left_cancel_iff, decide_true, decide_false, Bool.false_eq_true, decide_eq_true_eq]
      · refine ⟨if vG (aN A) t = true then 1 else 0, ?_, ?_⟩
        rotate_left
        · simp (disch := omega) only [fX6_traveller, M_isT_yes hM.1 ok.1 ht, stp_s, bd_s, bd2_s, gd_t, gd_in, clampN, fa_lit, ofN, nI_add, pk_mul, leN, ltN, eqN, eqNg, gNeq, gNlt, gNle, ltNg, leNg, gg, mI_sI, mI_sL, mI_sP, mI_sA, mI_sB, mL_sI, mL_sL, mL_sP, mL_sA, mL_sB, mP_sI, mP_sL, mP_sP, mP_sA, mP_sB, mA_sI, mA_sL, mA_sP, mA_sAg, mA_sB, mB_sI, mB_sL, mB_sP, mB_sA, mB_sBg, mE_sI, mE_sL, mE_sP, mE_sA, mE_sB, Nat.reduceEqDiff, Nat.reduceAdd, Nat.reduceMul, Nat.reduceSub, Nat.reduceLT, Nat.reduceLeDiff, Nat.reduceDiv, Nat.reduceMod, Nat.reduceBEq, and_true, true_and, and_false, false_and, and_self, ite_true, ite_false, if_true, if_false, reduceIte, eq_self, not_true, not_false_eq_true, Bool.true_and, Bool.and_true, Bool.false_and, Bool.and_false, Bool.or_true, Bool.true_or, Bool.or_false, Bool.false_or, Bool.not_true, Bool.not_false, reduceCtorEq, upd_e, Nat.add_eq_zero_iff, Nat.add_right_cancel_iff, Nat.add_left_cancel_iff, decide_true, decide_false, Bool.false_eq_true, decide_eq_true_eq, inr_yes]
          exact congrArg some (hM.2.2.1.2.2.2.2.1 t ht6)
        · simp (disch := omega) only [fX5_traveller, hP1, hP3, C_hasT_yes hI ok.1 ht, hN.isGone ht6, stp_s, bd_s, bd2_s, gd_t, gd_in, clampN, fa_lit, ofN, nI_add, pk_mul, leN, ltN, eqN, eqNg, gNeq, gNlt, gNle, ltNg, leNg, gg, mI_sI, mI_sL, mI_sP, mI_sA, mI_sB, mL_sI, mL_sL, mL_sP, mL_sA, mL_sB, mP_sI, mP_sL, mP_sP, mP_sA, mP_sB, mA_sI, mA_sL, mA_sP, mA_sAg, mA_sB, mB_sI, mB_sL, mB_sP, mB_sA, mB_sBg, mE_sI, mE_sL, mE_sP, mE_sA, mE_sB, Nat.reduceEqDiff, Nat.reduceAdd, Nat.reduceMul, Nat.reduceSub, Nat.reduceLT, Nat.reduceLeDiff, Nat.reduceDiv, Nat.reduceMod, Nat.reduceBEq, and_true, true_and, and_false, false_and, and_self, ite_true, ite_false, if_true, if_false, reduceIte, eq_self, not_true, not_false_eq_true, Bool.true_and, Bool.and_true, Bool.false_and, Bool.and_false, Bool.or_true, Bool.true_or, Bool.or_false, Bool.false_or, Bool.not_true, Bool.not_false, reduceCtorEq, upd_e, Nat.add_eq_zero_iff, Nat.add_right_cancel_iff, Nat.add_left_cancel_iff, decide_true, decide_false, Bool.false_eq_true, decide_eq_true_eq]
          cases vG (aN A) t <;> rfl
theorem op_clerk {σ τ : Mem} (h : Rel σ τ) (x1 : Int32) (x2 : Int32) : ∃ (r : Int32), fX5_clerk σ 0 x1 x2 = some r ∧ fX6_clerk τ 0 x1 x2 = some r := by
  obtain ⟨A, q, q2, ok, hC, hM⟩ := id h
  have hP1 : mP σ 0 1 = q := hC.1.2.2.2.2.1
  have hI := hC.2.1
  have hK := ok.1.2.2.2.2.1
  rcases ix3 x1 (n := iK (aI A)) (by omega) with hx | ⟨t, ht, rfl⟩
  · refine ⟨-1, ?_, ?_⟩
    · simp (disch := omega) only [fX5_clerk, hP1, C_hasK_no hI hx, stp_s, bd_s, bd2_s, gd_t, gd_in, clampN, fa_lit, ofN, nI_add, pk_mul, leN, ltN, eqN, eqNg, gNeq, gNlt, gNle, ltNg, leNg, gg, mI_sI, mI_sL, mI_sP, mI_sA, mI_sB, mL_sI, mL_sL, mL_sP, mL_sA, mL_sB, mP_sI, mP_sL, mP_sP, mP_sA, mP_sB, mA_sI, mA_sL, mA_sP, mA_sAg, mA_sB, mB_sI, mB_sL, mB_sP, mB_sA, mB_sBg, mE_sI, mE_sL, mE_sP, mE_sA, mE_sB, Nat.reduceEqDiff, Nat.reduceAdd, Nat.reduceMul, Nat.reduceSub, Nat.reduceLT, Nat.reduceLeDiff, Nat.reduceDiv, Nat.reduceMod, Nat.reduceBEq, and_true, true_and, and_false, false_and, and_self, ite_true, ite_false, if_true, if_false, reduceIte, eq_self, not_true, not_false_eq_true, Bool.true_and, Bool.and_true, Bool.false_and, Bool.and_false, Bool.or_true, Bool.true_or, Bool.or_false, Bool.false_or, Bool.not_true, Bool.not_false, reduceCtorEq, upd_e, Nat.add_eq_zero_iff, Nat.add_right_cancel_iff, Nat.add_left_cancel_iff, decide_true, decide_false, Bool.false_eq_true, decide_eq_true_eq]
    · simp (disch := omega) only [fX6_clerk, M_isK_no hM.1 ok.1 hx, stp_s, bd_s, bd2_s, gd_t, gd_in, clampN, fa_lit, ofN, nI_add, pk_mul, leN, ltN, eqN, eqNg, gNeq, gNlt, gNle, ltNg, leNg, gg, mI_sI, mI_sL, mI_sP, mI_sA, mI_sB, mL_sI, mL_sL, mL_sP, mL_sA, mL_sB, mP_sI, mP_sL, mP_sP, mP_sA, mP_sB, mA_sI, mA_sL, mA_sP, mA_sAg, mA_sB, mB_sI, mB_sL, mB_sP, mB_sA, mB_sBg, mE_sI, mE_sL, mE_sP, mE_sA, mE_sB, Nat.reduceEqDiff, Nat.reduceAdd, Nat.reduceMul, Nat.reduceSub, Nat.reduceLT, Nat.reduceLeDiff, Nat.reduceDiv, Nat.reduceMod, Nat.reduceBEq, and_true, true_and, and_false, false_and, and_self, ite_true, ite_false, if_true, if_false, reduceIte, eq_self, not_true, not_false_eq_true, Bool.true_and, Bool.and_true, Bool.false_and, Bool.and_false, Bool.or_true, Bool.true_or, Bool.or_false, Bool.false_or, Bool.not_true, Bool.not_false, reduceCtorEq, upd_e, Nat.add_eq_zero_iff, Nat.add_right_cancel_iff, Nat.add_left_cancel_iff, decide_true, decide_false, Bool.false_eq_true, decide_eq_true_eq]
  · rcases lit_cases x2 (n := 2) (by decide) with hn | ⟨j, hj, rfl⟩
    · have h0 := hn 0 (by decide); have h1 := hn 1 (by decide); have h2 := hn 2 (by decide)
      refine ⟨-1, ?_, ?_⟩
      · simp (disch := omega) only [fX5_clerk, hP1, C_hasK_yes hI ok.1 ht, stp_s, bd_s, bd2_s, gd_t, gd_in, clampN, fa_lit, ofN, nI_add, pk_mul, leN, ltN, eqN, eqNg, gNeq, gNlt, gNle, ltNg, leNg, gg, mI_sI, mI_sL, mI_sP, mI_sA, mI_sB, mL_sI, mL_sL, mL_sP, mL_sA, mL_sB, mP_sI, mP_sL, mP_sP, mP_sA, mP_sB, mA_sI, mA_sL, mA_sP, mA_sAg, mA_sB, mB_sI, mB_sL, mB_sP, mB_sA, mB_sBg, mE_sI, mE_sL, mE_sP, mE_sA, mE_sB, Nat.reduceEqDiff, Nat.reduceAdd, Nat.reduceMul, Nat.reduceSub, Nat.reduceLT, Nat.reduceLeDiff, Nat.reduceDiv, Nat.reduceMod, Nat.reduceBEq, and_true, true_and, and_false, false_and, and_self, ite_true, ite_false, if_true, if_false, reduceIte, eq_self, not_true, not_false_eq_true, Bool.true_and, Bool.and_true, Bool.false_and, Bool.and_false, Bool.or_true, Bool.true_or, Bool.or_false, Bool.false_or, Bool.not_true, Bool.not_false, reduceCtorEq, upd_e, Nat.add_eq_zero_iff, Nat.add_right_cancel_iff, Nat.add_left_cancel_iff, decide_true, decide_false, Bool.false_eq_true, decide_eq_true_eq, h0, h1, h2]
      · simp (disch := omega) only [fX6_clerk, M_isK_yes hM.1 ok.1 ht, stp_s, bd_s, bd2_s, gd_t, gd_in, clampN, fa_lit, ofN, nI_add, pk_mul, leN, ltN, eqN, eqNg, gNeq, gNlt, gNle, ltNg, leNg, gg, mI_sI, mI_sL, mI_sP, mI_sA, mI_sB, mL_sI, mL_sL, mL_sP, mL_sA, mL_sB, mP_sI, mP_sL, mP_sP, mP_sA, mP_sB, mA_sI, mA_sL, mA_sP, mA_sAg, mA_sB, mB_sI, mB_sL, mB_sP, mB_sA, mB_sBg, mE_sI, mE_sL, mE_sP, mE_sA, mE_sB, Nat.reduceEqDiff, Nat.reduceAdd, Nat.reduceMul, Nat.reduceSub, Nat.reduceLT, Nat.reduceLeDiff, Nat.reduceDiv, Nat.reduceMod, Nat.reduceBEq, and_true, true_and, and_false, false_and, and_self, ite_true, ite_false, if_true, if_false, reduceIte, eq_self, not_true, not_false_eq_true, Bool.true_and, Bool.and_true, Bool.false_and, Bool.and_false, Bool.or_true, Bool.true_or, Bool.or_false, Bool.false_or, Bool.not_true, Bool.not_false, reduceCtorEq, upd_e, Nat.add_eq_zero_iff, Nat.add_right_cancel_iff, Nat.add_left_cancel_iff, decide_true, decide_false, Bool.false_eq_true, decide_eq_true_eq, inr_no (out_of (by decide) hn)]
    · have e : j = 0 ∨ j = 1 ∨ j = 2 := by omega
      rcases e with rfl | rfl | rfl
      · refine ⟨nI (iU (aI A) t), ?_, ?_⟩
        · simp (disch := omega) only [fX5_clerk, hP1, C_hasK_yes hI ok.1 ht, stp_s, bd_s, bd2_s, gd_t, gd_in, clampN, fa_lit, ofN, nI_add, pk_mul, leN, ltN, eqN, eqNg, gNeq, gNlt, gNle, ltNg, leNg, gg, mI_sI, mI_sL, mI_sP, mI_sA, mI_sB, mL_sI, mL_sL, mL_sP, mL_sA, mL_sB, mP_sI, mP_sL, mP_sP, mP_sA, mP_sB, mA_sI, mA_sL, mA_sP, mA_sAg, mA_sB, mB_sI, mB_sL, mB_sP, mB_sA, mB_sBg, mE_sI, mE_sL, mE_sP, mE_sA, mE_sB, Nat.reduceEqDiff, Nat.reduceAdd, Nat.reduceMul, Nat.reduceSub, Nat.reduceLT, Nat.reduceLeDiff, Nat.reduceDiv, Nat.reduceMod, Nat.reduceBEq, and_true, true_and, and_false, false_and, and_self, ite_true, ite_false, if_true, if_false, reduceIte, eq_self, not_true, not_false_eq_true, Bool.true_and, Bool.and_true, Bool.false_and, Bool.and_false, Bool.or_true, Bool.true_or, Bool.or_false, Bool.false_or, Bool.not_true, Bool.not_false, reduceCtorEq, upd_e, Nat.add_eq_zero_iff, Nat.add_right_cancel_iff, Nat.add_left_cancel_iff, decide_true, decide_false, Bool.false_eq_true, decide_eq_true_eq, hI.2.2.2.2.2.2.2.1 t ht]
        · simp (disch := omega) only [fX6_clerk, M_isK_yes hM.1 ok.1 ht, stp_s, bd_s, bd2_s, gd_t, gd_in, clampN, fa_lit, ofN, nI_add, pk_mul, leN, ltN, eqN, eqNg, gNeq, gNlt, gNle, ltNg, leNg, gg, mI_sI, mI_sL, mI_sP, mI_sA, mI_sB, mL_sI, mL_sL, mL_sP, mL_sA, mL_sB, mP_sI, mP_sL, mP_sP, mP_sA, mP_sB, mA_sI, mA_sL, mA_sP, mA_sAg, mA_sB, mB_sI, mB_sL, mB_sP, mB_sA, mB_sBg, mE_sI, mE_sL, mE_sP, mE_sA, mE_sB, Nat.reduceEqDiff, Nat.reduceAdd, Nat.reduceMul, Nat.reduceSub, Nat.reduceLT, Nat.reduceLeDiff, Nat.reduceDiv, Nat.reduceMod, Nat.reduceBEq, and_true, true_and, and_false, false_and, and_self, ite_true, ite_false, if_true, if_false, reduceIte, eq_self, not_true, not_false_eq_true, Bool.true_and, Bool.and_true, Bool.false_and, Bool.and_false, Bool.or_true, Bool.true_or, Bool.or_false, Bool.false_or, Bool.not_true, Bool.not_false, reduceCtorEq, upd_e, Nat.add_eq_zero_iff, Nat.add_right_cancel_iff, Nat.add_left_cancel_iff, decide_true, decide_false, Bool.false_eq_true, decide_eq_true_eq, inr_yes, Nat.add_zero, hM.1.2.2.2.2.2.2.2.1 t ht]
      · refine ⟨nI (iM (aI A) t), ?_, ?_⟩
        · simp (disch := omega) only [fX5_clerk, hP1, C_hasK_yes hI ok.1 ht, stp_s, bd_s, bd2_s, gd_t, gd_in, clampN, fa_lit, ofN, nI_add, pk_mul, leN, ltN, eqN, eqNg, gNeq, gNlt, gNle, ltNg, leNg, gg, mI_sI, mI_sL, mI_sP, mI_sA, mI_sB, mL_sI, mL_sL, mL_sP, mL_sA, mL_sB, mP_sI, mP_sL, mP_sP, mP_sA, mP_sB, mA_sI, mA_sL, mA_sP, mA_sAg, mA_sB, mB_sI, mB_sL, mB_sP, mB_sA, mB_sBg, mE_sI, mE_sL, mE_sP, mE_sA, mE_sB, Nat.reduceEqDiff, Nat.reduceAdd, Nat.reduceMul, Nat.reduceSub, Nat.reduceLT, Nat.reduceLeDiff, Nat.reduceDiv, Nat.reduceMod, Nat.reduceBEq, and_true, true_and, and_false, false_and, and_self, ite_true, ite_false, if_true, if_false, reduceIte, eq_self, not_true, not_false_eq_true, Bool.true_and, Bool.and_true, Bool.false_and, Bool.and_false, Bool.or_true, Bool.true_or, Bool.or_false, Bool.false_or, Bool.not_true, Bool.not_false, reduceCtorEq, upd_e, Nat.add_eq_zero_iff, Nat.add_right_cancel_iff, Nat.add_left_cancel_iff, decide_true, decide_false, Bool.false_eq_true, decide_eq_true_eq, hI.2.2.2.2.2.2.2.2.1 t ht]
        · simp (disch := omega) only [fX6_clerk, M_isK_yes hM.1 ok.1 ht, stp_s, bd_s, bd2_s, gd_t, gd_in, clampN, fa_lit, ofN, nI_add, pk_mul, leN, ltN, eqN, eqNg, gNeq, gNlt, gNle, ltNg, leNg, gg, mI_sI, mI_sL, mI_sP, mI_sA, mI_sB, mL_sI, mL_sL, mL_sP, mL_sA, mL_sB, mP_sI, mP_sL, mP_sP, mP_sA, mP_sB, mA_sI, mA_sL, mA_sP, mA_sAg, mA_sB, mB_sI, mB_sL, mB_sP, mB_sA, mB_sBg, mE_sI, mE_sL, mE_sP, mE_sA, mE_sB, Nat.reduceEqDiff, Nat.reduceAdd, Nat.reduceMul, Nat.reduceSub, Nat.reduceLT, Nat.reduceLeDiff, Nat.reduceDiv, Nat.reduceMod, Nat.reduceBEq, and_true, true_and, and_false, false_and, and_self, ite_true, ite_false, if_true, if_false, reduceIte, eq_self, not_true, not_false_eq_true, Bool.true_and, Bool.and_true, Bool.false_and, Bool.and_false, Bool.or_true, Bool.true_or, Bool.or_false, Bool.false_or, Bool.not_true, Bool.not_false, reduceCtorEq, upd_e, Nat.add_eq_zero_iff, Nat.add_right_cancel_iff, Nat.add_left_cancel_iff, decide_true, decide_false, Bool.false_eq_true, decide_eq_true_eq, inr_yes, hM.1.2.2.2.2.2.2.2.2.1 t ht]
      · refine ⟨nI (iN (aI A) t), ?_, ?_⟩
        · simp (disch := omega) only [fX5_clerk, hP1, C_hasK_yes hI ok.1 ht, stp_s, bd_s, bd2_s, gd_t, gd_in, clampN, fa_lit, ofN, nI_add, pk_mul, leN, ltN, eqN, eqNg, gNeq, gNlt, gNle, ltNg, leNg, gg, mI_sI, mI_sL, mI_sP, mI_sA, mI_sB, mL_sI, mL_sL, mL_sP, mL_sA, mL_sB, mP_sI, mP_sL, mP_sP, mP_sA, mP_sB, mA_sI, mA_sL, mA_sP, mA_sAg, mA_sB, mB_sI, mB_sL, mB_sP, mB_sA, mB_sBg, mE_sI, mE_sL, mE_sP, mE_sA, mE_sB, Nat.reduceEqDiff, Nat.reduceAdd, Nat.reduceMul, Nat.reduceSub, Nat.reduceLT, Nat.reduceLeDiff, Nat.reduceDiv, Nat.reduceMod, Nat.reduceBEq, and_true, true_and, and_false, false_and, and_self, ite_true, ite_false, if_true, if_false, reduceIte, eq_self, not_true, not_false_eq_true, Bool.true_and, Bool.and_true, Bool.false_and, Bool.and_false, Bool.or_true, Bool.true_or, Bool.or_false, Bool.false_or, Bool.not_true, Bool.not_false, reduceCtorEq, upd_e, Nat.add_eq_zero_iff, Nat.add_right_cancel_iff, Nat.add_left_cancel_iff, decide_true, decide_false, Bool.false_eq_true, decide_eq_true_eq, hI.2.2.2.2.2.2.2.2.2.1 t ht]
        · simp (disch := omega) only [fX6_clerk, M_isK_yes hM.1 ok.1 ht, stp_s, bd_s, bd2_s, gd_t, gd_in, clampN, fa_lit, ofN, nI_add, pk_mul, leN, ltN, eqN, eqNg, gNeq, gNlt, gNle, ltNg, leNg, gg, mI_sI, mI_sL, mI_sP, mI_sA, mI_sB, mL_sI, mL_sL, mL_sP, mL_sA, mL_sB, mP_sI, mP_sL, mP_sP, mP_sA, mP_sB, mA_sI, mA_sL, mA_sP, mA_sAg, mA_sB, mB_sI, mB_sL, mB_sP, mB_sA, mB_sBg, mE_sI, mE_sL, mE_sP, mE_sA, mE_sB, Nat.reduceEqDiff, Nat.reduceAdd, Nat.reduceMul, Nat.reduceSub, Nat.reduceLT, Nat.reduceLeDiff, Nat.reduceDiv, Nat.reduceMod, Nat.reduceBEq, and_true, true_and, and_false, false_and, and_self, ite_true, ite_false, if_true, if_false, reduceIte, eq_self, not_true, not_false_eq_true, Bool.true_and, Bool.and_true, Bool.false_and, Bool.and_false, Bool.or_true, Bool.true_or, Bool.or_false, Bool.false_or, Bool.not_true, Bool.not_false, reduceCtorEq, upd_e, Nat.add_eq_zero_iff, Nat.add_right_cancel_iff, Nat.add_left_cancel_iff, decide_true, decide_false, Bool.false_eq_true, decide_eq_true_eq, inr_yes, hM.1.2.2.2.2.2.2.2.2.2 t ht]
theorem y1000 {N : NV} {T R : Nat} (ok : NOK N T R) : ∀ r, r < 3 → vY N r < 1000 := fun r hr => by
  have := ok.2.2.2.1 r hr; have := ok.1; omega
theorem C_leave {σ : Mem} {q q2 : Nat} {A : AS} (ok : AOK A) (hC : CSq σ q q2 A) {l : Nat} (hl : l < 1000) : fX2_mayLeave σ 4 (nI (iH (aI A))) (nI l) = some (nI (bs6 (leave (aN A) (iH (aI A)) l))) := by
  have hh := ok.1.1
  exact hC.2.2.2.1.mayLeave (by omega) hl (y1000 ok.2.2.1) (fun t ht => (ok.2.2.1.2.1 t ht).1)
theorem op_now {σ τ : Mem} (h : Rel σ τ) (x1 : Int32) : ∃ (r : Int32), fX5_now σ 0 x1 = some r ∧ fX6_now τ 0 x1 = some r := by
  obtain ⟨A, q, q2, ok, hC, hM⟩ := id h
  have hP1 : mP σ 0 1 = q := hC.1.2.2.2.2.1
  have hP3 : mP σ 0 3 = 4 := hC.1.2.1
  have hP4 : mP σ 0 4 = 5 := hC.1.2.2.1
  have hI := hC.2.1
  have hN := hC.2.2.2.1
  have hD := ok.2.2.1.1
  have m0 : mA τ 0 7 0 = nI (vD (aN A)) := hM.2.2.1.1
  have m1 : mA τ 0 7 1 = vV (aN A) := hM.2.2.1.2.1
  rcases lit_cases x1 (n := 5) (by decide) with hn | ⟨j, hj, rfl⟩
  · have h0 := hn 0 (by decide); have h1 := hn 1 (by decide); have h2 := hn 2 (by decide); have h3 := hn 3 (by decide); have h4 := hn 4 (by decide); have h5 := hn 5 (by decide)
    refine ⟨-1, ?_, ?_⟩
    · simp only [fX5_now, stp_s, bd_s, bd2_s, gd_t, gd_in, clampN, fa_lit, ofN, nI_add, pk_mul, leN, ltN, eqN, eqNg, gNeq, gNlt, gNle, ltNg, leNg, gg, mI_sI, mI_sL, mI_sP, mI_sA, mI_sB, mL_sI, mL_sL, mL_sP, mL_sA, mL_sB, mP_sI, mP_sL, mP_sP, mP_sA, mP_sB, mA_sI, mA_sL, mA_sP, mA_sAg, mA_sB, mB_sI, mB_sL, mB_sP, mB_sA, mB_sBg, mE_sI, mE_sL, mE_sP, mE_sA, mE_sB, Nat.reduceEqDiff, Nat.reduceAdd, Nat.reduceMul, Nat.reduceSub, Nat.reduceLT, Nat.reduceLeDiff, Nat.reduceDiv, Nat.reduceMod, Nat.reduceBEq, and_true, true_and, and_false, false_and, and_self, ite_true, ite_false, if_true, if_false, reduceIte, eq_self, not_true, not_false_eq_true, Bool.true_and, Bool.and_true, Bool.false_and, Bool.and_false, Bool.or_true, Bool.true_or, Bool.or_false, Bool.false_or, Bool.not_true, Bool.not_false, reduceCtorEq, upd_e, Nat.add_eq_zero_iff, Nat.add_right_cancel_iff, Nat.add_left_cancel_iff, decide_true, decide_false, Bool.false_eq_true, decide_eq_true_eq, h0, h1, h2, h3, h4, h5]
    · simp only [fX6_now, stp_s, bd_s, bd2_s, gd_t, gd_in, clampN, fa_lit, ofN, nI_add, pk_mul, leN, ltN, eqN, eqNg, gNeq, gNlt, gNle, ltNg, leNg, gg, mI_sI, mI_sL, mI_sP, mI_sA, mI_sB, mL_sI, mL_sL, mL_sP, mL_sA, mL_sB, mP_sI, mP_sL, mP_sP, mP_sA, mP_sB, mA_sI, mA_sL, mA_sP, mA_sAg, mA_sB, mB_sI, mB_sL, mB_sP, mB_sA, mB_sBg, mE_sI, mE_sL, mE_sP, mE_sA, mE_sB, Nat.reduceEqDiff, Nat.reduceAdd, Nat.reduceMul, Nat.reduceSub, Nat.reduceLT, Nat.reduceLeDiff, Nat.reduceDiv, Nat.reduceMod, Nat.reduceBEq, and_true, true_and, and_false, false_and, and_self, ite_true, ite_false, if_true, if_false, reduceIte, eq_self, not_true, not_false_eq_true, Bool.true_and, Bool.and_true, Bool.false_and, Bool.and_false, Bool.or_true, Bool.true_or, Bool.or_false, Bool.false_or, Bool.not_true, Bool.not_false, reduceCtorEq, upd_e, Nat.add_eq_zero_iff, Nat.add_right_cancel_iff, Nat.add_left_cancel_iff, decide_true, decide_false, Bool.false_eq_true, decide_eq_true_eq, h0, h1, h2, h3, h4, h5]
  · have e : j = 0 ∨ j = 1 ∨ j = 2 ∨ j = 3 ∨ j = 4 ∨ j = 5 := by omega
    rcases e with rfl | rfl | rfl | rfl | rfl | rfl
    · refine ⟨nI (vD (aN A)), ?_, ?_⟩
      · simp (disch := omega) only [fX5_now, stp_s, bd_s, bd2_s, gd_t, gd_in, clampN, fa_lit, ofN, nI_add, pk_mul, leN, ltN, eqN, eqNg, gNeq, gNlt, gNle, ltNg, leNg, gg, mI_sI, mI_sL, mI_sP, mI_sA, mI_sB, mL_sI, mL_sL, mL_sP, mL_sA, mL_sB, mP_sI, mP_sL, mP_sP, mP_sA, mP_sB, mA_sI, mA_sL, mA_sP, mA_sAg, mA_sB, mB_sI, mB_sL, mB_sP, mB_sA, mB_sBg, mE_sI, mE_sL, mE_sP, mE_sA, mE_sB, Nat.reduceEqDiff, Nat.reduceAdd, Nat.reduceMul, Nat.reduceSub, Nat.reduceLT, Nat.reduceLeDiff, Nat.reduceDiv, Nat.reduceMod, Nat.reduceBEq, and_true, true_and, and_false, false_and, and_self, ite_true, ite_false, if_true, if_false, reduceIte, eq_self, not_true, not_false_eq_true, Bool.true_and, Bool.and_true, Bool.false_and, Bool.and_false, Bool.or_true, Bool.true_or, Bool.or_false, Bool.false_or, Bool.not_true, Bool.not_false, reduceCtorEq, upd_e, Nat.add_eq_zero_iff, Nat.add_right_cancel_iff, Nat.add_left_cancel_iff, decide_true, decide_false, Bool.false_eq_true, decide_eq_true_eq, hP3, hN.1]
      · simp (disch := omega) only [fX6_now, stp_s, bd_s, bd2_s, gd_t, gd_in, clampN, fa_lit, ofN, nI_add, pk_mul, leN, ltN, eqN, eqNg, gNeq, gNlt, gNle, ltNg, leNg, gg, mI_sI, mI_sL, mI_sP, mI_sA, mI_sB, mL_sI, mL_sL, mL_sP, mL_sA, mL_sB, mP_sI, mP_sL, mP_sP, mP_sA, mP_sB, mA_sI, mA_sL, mA_sP, mA_sAg, mA_sB, mB_sI, mB_sL, mB_sP, mB_sA, mB_sBg, mE_sI, mE_sL, mE_sP, mE_sA, mE_sB, Nat.reduceEqDiff, Nat.reduceAdd, Nat.reduceMul, Nat.reduceSub, Nat.reduceLT, Nat.reduceLeDiff, Nat.reduceDiv, Nat.reduceMod, Nat.reduceBEq, and_true, true_and, and_false, false_and, and_self, ite_true, ite_false, if_true, if_false, reduceIte, eq_self, not_true, not_false_eq_true, Bool.true_and, Bool.and_true, Bool.false_and, Bool.and_false, Bool.or_true, Bool.true_or, Bool.or_false, Bool.false_or, Bool.not_true, Bool.not_false, reduceCtorEq, upd_e, Nat.add_eq_zero_iff, Nat.add_right_cancel_iff, Nat.add_left_cancel_iff, decide_true, decide_false, Bool.false_eq_true, decide_eq_true_eq, m0]
    · refine ⟨vV (aN A), ?_, ?_⟩
      · simp (disch := omega) only [fX5_now, stp_s, bd_s, bd2_s, gd_t, gd_in, clampN, fa_lit, ofN, nI_add, pk_mul, leN, ltN, eqN, eqNg, gNeq, gNlt, gNle, ltNg, leNg, gg, mI_sI, mI_sL, mI_sP, mI_sA, mI_sB, mL_sI, mL_sL, mL_sP, mL_sA, mL_sB, mP_sI, mP_sL, mP_sP, mP_sA, mP_sB, mA_sI, mA_sL, mA_sP, mA_sAg, mA_sB, mB_sI, mB_sL, mB_sP, mB_sA, mB_sBg, mE_sI, mE_sL, mE_sP, mE_sA, mE_sB, Nat.reduceEqDiff, Nat.reduceAdd, Nat.reduceMul, Nat.reduceSub, Nat.reduceLT, Nat.reduceLeDiff, Nat.reduceDiv, Nat.reduceMod, Nat.reduceBEq, and_true, true_and, and_false, false_and, and_self, ite_true, ite_false, if_true, if_false, reduceIte, eq_self, not_true, not_false_eq_true, Bool.true_and, Bool.and_true, Bool.false_and, Bool.and_false, Bool.or_true, Bool.true_or, Bool.or_false, Bool.false_or, Bool.not_true, Bool.not_false, reduceCtorEq, upd_e, Nat.add_eq_zero_iff, Nat.add_right_cancel_iff, Nat.add_left_cancel_iff, decide_true, decide_false, Bool.false_eq_true, decide_eq_true_eq, hP3, hN.2.1]
      · simp (disch := omega) only [fX6_now, stp_s, bd_s, bd2_s, gd_t, gd_in, clampN, fa_lit, ofN, nI_add, pk_mul, leN, ltN, eqN, eqNg, gNeq, gNlt, gNle, ltNg, leNg, gg, mI_sI, mI_sL, mI_sP, mI_sA, mI_sB, mL_sI, mL_sL, mL_sP, mL_sA, mL_sB, mP_sI, mP_sL, mP_sP, mP_sA, mP_sB, mA_sI, mA_sL, mA_sP, mA_sAg, mA_sB, mB_sI, mB_sL, mB_sP, mB_sA, mB_sBg, mE_sI, mE_sL, mE_sP, mE_sA, mE_sB, Nat.reduceEqDiff, Nat.reduceAdd, Nat.reduceMul, Nat.reduceSub, Nat.reduceLT, Nat.reduceLeDiff, Nat.reduceDiv, Nat.reduceMod, Nat.reduceBEq, and_true, true_and, and_false, false_and, and_self, ite_true, ite_false, if_true, if_false, reduceIte, eq_self, not_true, not_false_eq_true, Bool.true_and, Bool.and_true, Bool.false_and, Bool.and_false, Bool.or_true, Bool.true_or, Bool.or_false, Bool.false_or, Bool.not_true, Bool.not_false, reduceCtorEq, upd_e, Nat.add_eq_zero_iff, Nat.add_right_cancel_iff, Nat.add_left_cancel_iff, decide_true, decide_false, Bool.false_eq_true, decide_eq_true_eq, m1]
    · refine ⟨nI (bs6 (leave (aN A) (iH (aI A)) 0)), ?_, ?_⟩
      · simp (disch := omega) only [fX5_now, stp_s, bd_s, bd2_s, gd_t, gd_in, clampN, fa_lit, ofN, nI_add, pk_mul, leN, ltN, eqN, eqNg, gNeq, gNlt, gNle, ltNg, leNg, gg, mI_sI, mI_sL, mI_sP, mI_sA, mI_sB, mL_sI, mL_sL, mL_sP, mL_sA, mL_sB, mP_sI, mP_sL, mP_sP, mP_sA, mP_sB, mA_sI, mA_sL, mA_sP, mA_sAg, mA_sB, mB_sI, mB_sL, mB_sP, mB_sA, mB_sBg, mE_sI, mE_sL, mE_sP, mE_sA, mE_sB, Nat.reduceEqDiff, Nat.reduceAdd, Nat.reduceMul, Nat.reduceSub, Nat.reduceLT, Nat.reduceLeDiff, Nat.reduceDiv, Nat.reduceMod, Nat.reduceBEq, and_true, true_and, and_false, false_and, and_self, ite_true, ite_false, if_true, if_false, reduceIte, eq_self, not_true, not_false_eq_true, Bool.true_and, Bool.and_true, Bool.false_and, Bool.and_false, Bool.or_true, Bool.true_or, Bool.or_false, Bool.false_or, Bool.not_true, Bool.not_false, reduceCtorEq, upd_e, Nat.add_eq_zero_iff, Nat.add_right_cancel_iff, Nat.add_left_cancel_iff, decide_true, decide_false, Bool.false_eq_true, decide_eq_true_eq, hP3, hP1, hI.1, C_leave ok hC]
      · simp (disch := omega) only [fX6_now, stp_s, bd_s, bd2_s, gd_t, gd_in, clampN, fa_lit, ofN, nI_add, pk_mul, leN, ltN, eqN, eqNg, gNeq, gNlt, gNle, ltNg, leNg, gg, mI_sI, mI_sL, mI_sP, mI_sA, mI_sB, mL_sI, mL_sL, mL_sP, mL_sA, mL_sB, mP_sI, mP_sL, mP_sP, mP_sA, mP_sB, mA_sI, mA_sL, mA_sP, mA_sAg, mA_sB, mB_sI, mB_sL, mB_sP, mB_sA, mB_sBg, mE_sI, mE_sL, mE_sP, mE_sA, mE_sB, Nat.reduceEqDiff, Nat.reduceAdd, Nat.reduceMul, Nat.reduceSub, Nat.reduceLT, Nat.reduceLeDiff, Nat.reduceDiv, Nat.reduceMod, Nat.reduceBEq, and_true, true_and, and_false, false_and, and_self, ite_true, ite_false, if_true, if_false, reduceIte, eq_self, not_true, not_false_eq_true, Bool.true_and, Bool.and_true, Bool.false_and, Bool.and_false, Bool.or_true, Bool.true_or, Bool.or_false, Bool.false_or, Bool.not_true, Bool.not_false, reduceCtorEq, upd_e, Nat.add_eq_zero_iff, Nat.add_right_cancel_iff, Nat.add_left_cancel_iff, decide_true, decide_false, Bool.false_eq_true, decide_eq_true_eq, M_leavers hM.1 ok.1 hM.2.2.1 ok.2.2.1]
    · refine ⟨nI (bs6 (vG (aN A))), ?_, ?_⟩
      · simp (disch := omega) only [fX5_now, stp_s, bd_s, bd2_s, gd_t, gd_in, clampN, fa_lit, ofN, nI_add, pk_mul, leN, ltN, eqN, eqNg, gNeq, gNlt, gNle, ltNg, leNg, gg, mI_sI, mI_sL, mI_sP, mI_sA, mI_sB, mL_sI, mL_sL, mL_sP, mL_sA, mL_sB, mP_sI, mP_sL, mP_sP, mP_sA, mP_sB, mA_sI, mA_sL, mA_sP, mA_sAg, mA_sB, mB_sI, mB_sL, mB_sP, mB_sA, mB_sBg, mE_sI, mE_sL, mE_sP, mE_sA, mE_sB, Nat.reduceEqDiff, Nat.reduceAdd, Nat.reduceMul, Nat.reduceSub, Nat.reduceLT, Nat.reduceLeDiff, Nat.reduceDiv, Nat.reduceMod, Nat.reduceBEq, and_true, true_and, and_false, false_and, and_self, ite_true, ite_false, if_true, if_false, reduceIte, eq_self, not_true, not_false_eq_true, Bool.true_and, Bool.and_true, Bool.false_and, Bool.and_false, Bool.or_true, Bool.true_or, Bool.or_false, Bool.false_or, Bool.not_true, Bool.not_false, reduceCtorEq, upd_e, Nat.add_eq_zero_iff, Nat.add_right_cancel_iff, Nat.add_left_cancel_iff, decide_true, decide_false, Bool.false_eq_true, decide_eq_true_eq, hP3, hN.2.2.1]
      · simp (disch := omega) only [fX6_now, stp_s, bd_s, bd2_s, gd_t, gd_in, clampN, fa_lit, ofN, nI_add, pk_mul, leN, ltN, eqN, eqNg, gNeq, gNlt, gNle, ltNg, leNg, gg, mI_sI, mI_sL, mI_sP, mI_sA, mI_sB, mL_sI, mL_sL, mL_sP, mL_sA, mL_sB, mP_sI, mP_sL, mP_sP, mP_sA, mP_sB, mA_sI, mA_sL, mA_sP, mA_sAg, mA_sB, mB_sI, mB_sL, mB_sP, mB_sA, mB_sBg, mE_sI, mE_sL, mE_sP, mE_sA, mE_sB, Nat.reduceEqDiff, Nat.reduceAdd, Nat.reduceMul, Nat.reduceSub, Nat.reduceLT, Nat.reduceLeDiff, Nat.reduceDiv, Nat.reduceMod, Nat.reduceBEq, and_true, true_and, and_false, false_and, and_self, ite_true, ite_false, if_true, if_false, reduceIte, eq_self, not_true, not_false_eq_true, Bool.true_and, Bool.and_true, Bool.false_and, Bool.and_false, Bool.or_true, Bool.true_or, Bool.or_false, Bool.false_or, Bool.not_true, Bool.not_false, reduceCtorEq, upd_e, Nat.add_eq_zero_iff, Nat.add_right_cancel_iff, Nat.add_left_cancel_iff, decide_true, decide_false, Bool.false_eq_true, decide_eq_true_eq, M_gone hM.1 ok.1 hM.2.2.1 (fun t ht => (ok.2.2.1.2.2.1 t ht).2)]
    · refine ⟨if vD (aN A) % iB (aI A) = 0 then 1 else 0, ?_, ?_⟩
      · simp (disch := omega) only [fX5_now, stp_s, bd_s, bd2_s, gd_t, gd_in, clampN, fa_lit, ofN, nI_add, pk_mul, leN, ltN, eqN, eqNg, gNeq, gNlt, gNle, ltNg, leNg, gg, mI_sI, mI_sL, mI_sP, mI_sA, mI_sB, mL_sI, mL_sL, mL_sP, mL_sA, mL_sB, mP_sI, mP_sL, mP_sP, mP_sA, mP_sB, mA_sI, mA_sL, mA_sP, mA_sAg, mA_sB, mB_sI, mB_sL, mB_sP, mB_sA, mB_sBg, mE_sI, mE_sL, mE_sP, mE_sA, mE_sB, Nat.reduceEqDiff, Nat.reduceAdd, Nat.reduceMul, Nat.reduceSub, Nat.reduceLT, Nat.reduceLeDiff, Nat.reduceDiv, Nat.reduceMod, Nat.reduceBEq, and_true, true_and, and_false, false_and, and_self, ite_true, ite_false, if_true, if_false, reduceIte, eq_self, not_true, not_false_eq_true, Bool.true_and, Bool.and_true, Bool.false_and, Bool.and_false, Bool.or_true, Bool.true_or, Bool.or_false, Bool.false_or, Bool.not_true, Bool.not_false, reduceCtorEq, upd_e, Nat.add_eq_zero_iff, Nat.add_right_cancel_iff, Nat.add_left_cancel_iff, decide_true, decide_false, Bool.false_eq_true, decide_eq_true_eq, hP3, hP1, hN.1, C_boat hI ok.1]
        split <;> rfl
      · simp (disch := omega) only [fX6_now, stp_s, bd_s, bd2_s, gd_t, gd_in, clampN, fa_lit, ofN, nI_add, pk_mul, leN, ltN, eqN, eqNg, gNeq, gNlt, gNle, ltNg, leNg, gg, mI_sI, mI_sL, mI_sP, mI_sA, mI_sB, mL_sI, mL_sL, mL_sP, mL_sA, mL_sB, mP_sI, mP_sL, mP_sP, mP_sA, mP_sB, mA_sI, mA_sL, mA_sP, mA_sAg, mA_sB, mB_sI, mB_sL, mB_sP, mB_sA, mB_sBg, mE_sI, mE_sL, mE_sP, mE_sA, mE_sB, Nat.reduceEqDiff, Nat.reduceAdd, Nat.reduceMul, Nat.reduceSub, Nat.reduceLT, Nat.reduceLeDiff, Nat.reduceDiv, Nat.reduceMod, Nat.reduceBEq, and_true, true_and, and_false, false_and, and_self, ite_true, ite_false, if_true, if_false, reduceIte, eq_self, not_true, not_false_eq_true, Bool.true_and, Bool.and_true, Bool.false_and, Bool.and_false, Bool.or_true, Bool.true_or, Bool.or_false, Bool.false_or, Bool.not_true, Bool.not_false, reduceCtorEq, upd_e, Nat.add_eq_zero_iff, Nat.add_right_cancel_iff, Nat.add_left_cancel_iff, decide_true, decide_false, Bool.false_eq_true, decide_eq_true_eq, m0, M_boat hM.1 ok.1]
        split <;> rfl
    · obtain ⟨x, -, hk, -⟩ := hC.2.2.2.2.2.1
      refine ⟨nI (aH A).1, ?_, ?_⟩
      · simp (disch := omega) only [fX5_now, stp_s, bd_s, bd2_s, gd_t, gd_in, clampN, fa_lit, ofN, nI_add, pk_mul, leN, ltN, eqN, eqNg, gNeq, gNlt, gNle, ltNg, leNg, gg, mI_sI, mI_sL, mI_sP, mI_sA, mI_sB, mL_sI, mL_sL, mL_sP, mL_sA, mL_sB, mP_sI, mP_sL, mP_sP, mP_sA, mP_sB, mA_sI, mA_sL, mA_sP, mA_sAg, mA_sB, mB_sI, mB_sL, mB_sP, mB_sA, mB_sBg, mE_sI, mE_sL, mE_sP, mE_sA, mE_sB, Nat.reduceEqDiff, Nat.reduceAdd, Nat.reduceMul, Nat.reduceSub, Nat.reduceLT, Nat.reduceLeDiff, Nat.reduceDiv, Nat.reduceMod, Nat.reduceBEq, and_true, true_and, and_false, false_and, and_self, ite_true, ite_false, if_true, if_false, reduceIte, eq_self, not_true, not_false_eq_true, Bool.true_and, Bool.and_true, Bool.false_and, Bool.and_false, Bool.or_true, Bool.true_or, Bool.or_false, Bool.false_or, Bool.not_true, Bool.not_false, reduceCtorEq, upd_e, Nat.add_eq_zero_iff, Nat.add_right_cancel_iff, Nat.add_left_cancel_iff, decide_true, decide_false, Bool.false_eq_true, decide_eq_true_eq, hP4, hk]
      · simp (disch := omega) only [fX6_now, stp_s, bd_s, bd2_s, gd_t, gd_in, clampN, fa_lit, ofN, nI_add, pk_mul, leN, ltN, eqN, eqNg, gNeq, gNlt, gNle, ltNg, leNg, gg, mI_sI, mI_sL, mI_sP, mI_sA, mI_sB, mL_sI, mL_sL, mL_sP, mL_sA, mL_sB, mP_sI, mP_sL, mP_sP, mP_sA, mP_sB, mA_sI, mA_sL, mA_sP, mA_sAg, mA_sB, mB_sI, mB_sL, mB_sP, mB_sA, mB_sBg, mE_sI, mE_sL, mE_sP, mE_sA, mE_sB, Nat.reduceEqDiff, Nat.reduceAdd, Nat.reduceMul, Nat.reduceSub, Nat.reduceLT, Nat.reduceLeDiff, Nat.reduceDiv, Nat.reduceMod, Nat.reduceBEq, and_true, true_and, and_false, false_and, and_self, ite_true, ite_false, if_true, if_false, reduceIte, eq_self, not_true, not_false_eq_true, Bool.true_and, Bool.and_true, Bool.false_and, Bool.and_false, Bool.or_true, Bool.true_or, Bool.or_false, Bool.false_or, Bool.not_true, Bool.not_false, reduceCtorEq, upd_e, Nat.add_eq_zero_iff, Nat.add_right_cancel_iff, Nat.add_left_cancel_iff, decide_true, decide_false, Bool.false_eq_true, decide_eq_true_eq, hM.2.2.2.2.1.1]
theorem op_waits {σ τ : Mem} (h : Rel σ τ) (x1 : Int32) : ∃ (r : Int32), fX5_waits σ 0 x1 = some r ∧ fX6_waits τ 0 x1 = some r := by
  obtain ⟨A, q, q2, ok, hC, hM⟩ := id h
  have hP1 : mP σ 0 1 = q := hC.1.2.2.2.2.1
  have hP3 : mP σ 0 3 = 4 := hC.1.2.1
  have hI := hC.2.1
  have hN := hC.2.2.2.1
  have hT := ok.1.2.2.2.1
  have hh := ok.1.1
  rcases ix3 x1 (n := iT (aI A)) (by omega) with hx | ⟨t, ht, rfl⟩
  · refine ⟨-1, ?_, ?_⟩
    · simp (disch := omega) only [fX5_waits, hP1, C_hasT_no hI hx, stp_s, bd_s, bd2_s, gd_t, gd_in, clampN, fa_lit, ofN, nI_add, pk_mul, leN, ltN, eqN, eqNg, gNeq, gNlt, gNle, ltNg, leNg, gg, mI_sI, mI_sL, mI_sP, mI_sA, mI_sB, mL_sI, mL_sL, mL_sP, mL_sA, mL_sB, mP_sI, mP_sL, mP_sP, mP_sA, mP_sB, mA_sI, mA_sL, mA_sP, mA_sAg, mA_sB, mB_sI, mB_sL, mB_sP, mB_sA, mB_sBg, mE_sI, mE_sL, mE_sP, mE_sA, mE_sB, Nat.reduceEqDiff, Nat.reduceAdd, Nat.reduceMul, Nat.reduceSub, Nat.reduceLT, Nat.reduceLeDiff, Nat.reduceDiv, Nat.reduceMod, Nat.reduceBEq, and_true, true_and, and_false, false_and, and_self, ite_true, ite_false, if_true, if_false, reduceIte, eq_self, not_true, not_false_eq_true, Bool.true_and, Bool.and_true, Bool.false_and, Bool.and_false, Bool.or_true, Bool.true_or, Bool.or_false, Bool.false_or, Bool.not_true, Bool.not_false, reduceCtorEq, upd_e, Nat.add_eq_zero_iff, Nat.add_right_cancel_iff, Nat.add_left_cancel_iff, decide_true, decide_false, Bool.false_eq_true, decide_eq_true_eq]
    · simp (disch := omega) only [fX6_waits, M_isT_no hM.1 ok.1 hx, stp_s, bd_s, bd2_s, gd_t, gd_in, clampN, fa_lit, ofN, nI_add, pk_mul, leN, ltN, eqN, eqNg, gNeq, gNlt, gNle, ltNg, leNg, gg, mI_sI, mI_sL, mI_sP, mI_sA, mI_sB, mL_sI, mL_sL, mL_sP, mL_sA, mL_sB, mP_sI, mP_sL, mP_sP, mP_sA, mP_sB, mA_sI, mA_sL, mA_sP, mA_sAg, mA_sB, mB_sI, mB_sL, mB_sP, mB_sA, mB_sBg, mE_sI, mE_sL, mE_sP, mE_sA, mE_sB, Nat.reduceEqDiff, Nat.reduceAdd, Nat.reduceMul, Nat.reduceSub, Nat.reduceLT, Nat.reduceLeDiff, Nat.reduceDiv, Nat.reduceMod, Nat.reduceBEq, and_true, true_and, and_false, false_and, and_self, ite_true, ite_false, if_true, if_false, reduceIte, eq_self, not_true, not_false_eq_true, Bool.true_and, Bool.and_true, Bool.false_and, Bool.and_false, Bool.or_true, Bool.true_or, Bool.or_false, Bool.false_or, Bool.not_true, Bool.not_false, reduceCtorEq, upd_e, Nat.add_eq_zero_iff, Nat.add_right_cancel_iff, Nat.add_left_cancel_iff, decide_true, decide_false, Bool.false_eq_true, decide_eq_true_eq]
  · have ht6 : t < 6 := by omega
    have hr3 := (ok.2.2.1.2.1 t ht6).1
    by_cases e : vR (aN A) t < 3
    · have hy := ok.2.2.1.2.2.2.1 _ e
      have hd := ok.2.2.1.1
      have m2 : mA τ 0 7 (2 + t) = nI (vR (aN A) t) := by rw [hM.2.2.1.2.2.1 t ht6, if_pos e]
      have m8 : mA τ 0 7 (8 + t) = nI (vY (aN A) (vR (aN A) t)) := by rw [hM.2.2.1.2.2.2.1 t ht6, if_pos e]
      by_cases e2 : iH (aI A) ≤ vY (aN A) (vR (aN A) t)
      · refine ⟨0, ?_, ?_⟩
        · simp (disch := omega) only [fX5_waits, hP1, hP3, C_hasT_yes hI ok.1 ht, hN.rowOf ht6 hr3, hN.daysInRow ht6 hr3, stp_s, bd_s, bd2_s, gd_t, gd_in, clampN, fa_lit, ofN, nI_add, pk_mul, leN, ltN, eqN, eqNg, gNeq, gNlt, gNle, ltNg, leNg, gg, mI_sI, mI_sL, mI_sP, mI_sA, mI_sB, mL_sI, mL_sL, mL_sP, mL_sA, mL_sB, mP_sI, mP_sL, mP_sP, mP_sA, mP_sB, mA_sI, mA_sL, mA_sP, mA_sAg, mA_sB, mB_sI, mB_sL, mB_sP, mB_sA, mB_sBg, mE_sI, mE_sL, mE_sP, mE_sA, mE_sB, Nat.reduceEqDiff, Nat.reduceAdd, Nat.reduceMul, Nat.reduceSub, Nat.reduceLT, Nat.reduceLeDiff, Nat.reduceDiv, Nat.reduceMod, Nat.reduceBEq, and_true, true_and, and_false, false_and, and_self, ite_true, ite_false, if_true, if_false, reduceIte, eq_self, not_true, not_false_eq_true, Bool.true_and, Bool.and_true, Bool.false_and, Bool.and_false, Bool.or_true, Bool.true_or, Bool.or_false, Bool.false_or, Bool.not_true, Bool.not_false, reduceCtorEq, upd_e, Nat.add_eq_zero_iff, Nat.add_right_cancel_iff, Nat.add_left_cancel_iff, decide_true, decide_false, Bool.false_eq_true, decide_eq_true_eq, e, hI.1, mxI]
          rw [if_neg]
          rw [Int32.lt_iff_toInt_lt, pk_sub_toInt (by omega) (by omega), nI_toInt (by decide)]
          omega
        · simp (disch := omega) only [fX6_waits, M_isT_yes hM.1 ok.1 ht, stp_s, bd_s, bd2_s, gd_t, gd_in, clampN, fa_lit, ofN, nI_add, pk_mul, leN, ltN, eqN, eqNg, gNeq, gNlt, gNle, ltNg, leNg, gg, mI_sI, mI_sL, mI_sP, mI_sA, mI_sB, mL_sI, mL_sL, mL_sP, mL_sA, mL_sB, mP_sI, mP_sL, mP_sP, mP_sA, mP_sB, mA_sI, mA_sL, mA_sP, mA_sAg, mA_sB, mB_sI, mB_sL, mB_sP, mB_sA, mB_sBg, mE_sI, mE_sL, mE_sP, mE_sA, mE_sB, Nat.reduceEqDiff, Nat.reduceAdd, Nat.reduceMul, Nat.reduceSub, Nat.reduceLT, Nat.reduceLeDiff, Nat.reduceDiv, Nat.reduceMod, Nat.reduceBEq, and_true, true_and, and_false, false_and, and_self, ite_true, ite_false, if_true, if_false, reduceIte, eq_self, not_true, not_false_eq_true, Bool.true_and, Bool.and_true, Bool.false_and, Bool.and_false, Bool.or_true, Bool.true_or, Bool.or_false, Bool.false_or, Bool.not_true, Bool.not_false, reduceCtorEq, upd_e, Nat.add_eq_zero_iff, Nat.add_right_cancel_iff, Nat.add_left_cancel_iff, decide_true, decide_false, Bool.false_eq_true, decide_eq_true_eq, m2, m8, hM.1.1, e2]
      · refine ⟨nI (iH (aI A)) - nI (vY (aN A) (vR (aN A) t)), ?_, ?_⟩
        · simp (disch := omega) only [fX5_waits, hP1, hP3, C_hasT_yes hI ok.1 ht, hN.rowOf ht6 hr3, hN.daysInRow ht6 hr3, stp_s, bd_s, bd2_s, gd_t, gd_in, clampN, fa_lit, ofN, nI_add, pk_mul, leN, ltN, eqN, eqNg, gNeq, gNlt, gNle, ltNg, leNg, gg, mI_sI, mI_sL, mI_sP, mI_sA, mI_sB, mL_sI, mL_sL, mL_sP, mL_sA, mL_sB, mP_sI, mP_sL, mP_sP, mP_sA, mP_sB, mA_sI, mA_sL, mA_sP, mA_sAg, mA_sB, mB_sI, mB_sL, mB_sP, mB_sA, mB_sBg, mE_sI, mE_sL, mE_sP, mE_sA, mE_sB, Nat.reduceEqDiff, Nat.reduceAdd, Nat.reduceMul, Nat.reduceSub, Nat.reduceLT, Nat.reduceLeDiff, Nat.reduceDiv, Nat.reduceMod, Nat.reduceBEq, and_true, true_and, and_false, false_and, and_self, ite_true, ite_false, if_true, if_false, reduceIte, eq_self, not_true, not_false_eq_true, Bool.true_and, Bool.and_true, Bool.false_and, Bool.and_false, Bool.or_true, Bool.true_or, Bool.or_false, Bool.false_or, Bool.not_true, Bool.not_false, reduceCtorEq, upd_e, Nat.add_eq_zero_iff, Nat.add_right_cancel_iff, Nat.add_left_cancel_iff, decide_true, decide_false, Bool.false_eq_true, decide_eq_true_eq, e, hI.1, mxI]
          rw [if_pos]
          rw [Int32.lt_iff_toInt_lt, pk_sub_toInt (by omega) (by omega), nI_toInt (by decide)]
          omega
        · simp (disch := omega) only [fX6_waits, M_isT_yes hM.1 ok.1 ht, stp_s, bd_s, bd2_s, gd_t, gd_in, clampN, fa_lit, ofN, nI_add, pk_mul, leN, ltN, eqN, eqNg, gNeq, gNlt, gNle, ltNg, leNg, gg, mI_sI, mI_sL, mI_sP, mI_sA, mI_sB, mL_sI, mL_sL, mL_sP, mL_sA, mL_sB, mP_sI, mP_sL, mP_sP, mP_sA, mP_sB, mA_sI, mA_sL, mA_sP, mA_sAg, mA_sB, mB_sI, mB_sL, mB_sP, mB_sA, mB_sBg, mE_sI, mE_sL, mE_sP, mE_sA, mE_sB, Nat.reduceEqDiff, Nat.reduceAdd, Nat.reduceMul, Nat.reduceSub, Nat.reduceLT, Nat.reduceLeDiff, Nat.reduceDiv, Nat.reduceMod, Nat.reduceBEq, and_true, true_and, and_false, false_and, and_self, ite_true, ite_false, if_true, if_false, reduceIte, eq_self, not_true, not_false_eq_true, Bool.true_and, Bool.and_true, Bool.false_and, Bool.and_false, Bool.or_true, Bool.true_or, Bool.or_false, Bool.false_or, Bool.not_true, Bool.not_false, reduceCtorEq, upd_e, Nat.add_eq_zero_iff, Nat.add_right_cancel_iff, Nat.add_left_cancel_iff, decide_true, decide_false, Bool.false_eq_true, decide_eq_true_eq, m2, m8, hM.1.1, e2]
    · refine ⟨-2, ?_, ?_⟩
      · simp (disch := omega) only [fX5_waits, hP1, hP3, C_hasT_yes hI ok.1 ht, hN.rowOf ht6 hr3, stp_s, bd_s, bd2_s, gd_t, gd_in, clampN, fa_lit, ofN, nI_add, pk_mul, leN, ltN, eqN, eqNg, gNeq, gNlt, gNle, ltNg, leNg, gg, mI_sI, mI_sL, mI_sP, mI_sA, mI_sB, mL_sI, mL_sL, mL_sP, mL_sA, mL_sB, mP_sI, mP_sL, mP_sP, mP_sA, mP_sB, mA_sI, mA_sL, mA_sP, mA_sAg, mA_sB, mB_sI, mB_sL, mB_sP, mB_sA, mB_sBg, mE_sI, mE_sL, mE_sP, mE_sA, mE_sB, Nat.reduceEqDiff, Nat.reduceAdd, Nat.reduceMul, Nat.reduceSub, Nat.reduceLT, Nat.reduceLeDiff, Nat.reduceDiv, Nat.reduceMod, Nat.reduceBEq, and_true, true_and, and_false, false_and, and_self, ite_true, ite_false, if_true, if_false, reduceIte, eq_self, not_true, not_false_eq_true, Bool.true_and, Bool.and_true, Bool.false_and, Bool.and_false, Bool.or_true, Bool.true_or, Bool.or_false, Bool.false_or, Bool.not_true, Bool.not_false, reduceCtorEq, upd_e, Nat.add_eq_zero_iff, Nat.add_right_cancel_iff, Nat.add_left_cancel_iff, decide_true, decide_false, Bool.false_eq_true, decide_eq_true_eq, e]
      · have m2 : mA τ 0 7 (2 + t) = -9 := by rw [hM.2.2.1.2.2.1 t ht6, if_neg e]
        simp (disch := omega) only [fX6_waits, M_isT_yes hM.1 ok.1 ht, stp_s, bd_s, bd2_s, gd_t, gd_in, clampN, fa_lit, ofN, nI_add, pk_mul, leN, ltN, eqN, eqNg, gNeq, gNlt, gNle, ltNg, leNg, gg, mI_sI, mI_sL, mI_sP, mI_sA, mI_sB, mL_sI, mL_sL, mL_sP, mL_sA, mL_sB, mP_sI, mP_sL, mP_sP, mP_sA, mP_sB, mA_sI, mA_sL, mA_sP, mA_sAg, mA_sB, mB_sI, mB_sL, mB_sP, mB_sA, mB_sBg, mE_sI, mE_sL, mE_sP, mE_sA, mE_sB, Nat.reduceEqDiff, Nat.reduceAdd, Nat.reduceMul, Nat.reduceSub, Nat.reduceLT, Nat.reduceLeDiff, Nat.reduceDiv, Nat.reduceMod, Nat.reduceBEq, and_true, true_and, and_false, false_and, and_self, ite_true, ite_false, if_true, if_false, reduceIte, eq_self, not_true, not_false_eq_true, Bool.true_and, Bool.and_true, Bool.false_and, Bool.and_false, Bool.or_true, Bool.true_or, Bool.or_false, Bool.false_or, Bool.not_true, Bool.not_false, reduceCtorEq, upd_e, Nat.add_eq_zero_iff, Nat.add_right_cancel_iff, Nat.add_left_cancel_iff, decide_true, decide_false, Bool.false_eq_true, decide_eq_true_eq, m2]
