/-! the present, as a value: day, vinegar, row of each (3: none), days of each row, gone, length of the letter, its words -/
abbrev NV : Type := Nat × Int32 × (Nat → Nat) × (Nat → Nat) × (Nat → Bool) × Nat × (Nat → Nat)
def vD (N : NV) : Nat := N.1
def vV (N : NV) : Int32 := N.2.1
def vR (N : NV) : Nat → Nat := N.2.2.1
def vY (N : NV) : Nat → Nat := N.2.2.2.1
def vG (N : NV) : Nat → Bool := N.2.2.2.2.1
def vN (N : NV) : Nat := N.2.2.2.2.2.1
def vW (N : NV) : Nat → Nat := N.2.2.2.2.2.2
def enc (w : Nat → Nat) : Nat → Nat
  | 0 => 1
  | n + 1 => enc w n * 11 + w n
def NC (σ : Mem) (o : Nat) (N : NV) : Prop :=
  mI σ o 0 = nI (vD N) ∧ mI σ o 1 = vV N ∧ mI σ o 2 = nI (bs6 (vG N)) ∧ mI σ o 3 = nI (enc (vW N) (vN N)) ∧
  (∀ r, r < 3 → mA σ o 4 r = nI (bs6 (fun t => decide (vR N t = r)))) ∧ (∀ r, r < 3 → mA σ o 5 r = nI (vY N r))
def NM (f : Nat → Int32) (N : NV) : Prop :=
  f 0 = nI (vD N) ∧ f 1 = vV N ∧ (∀ t, t < 6 → f (2 + t) = (if vR N t < 3 then nI (vR N t) else -9)) ∧ (∀ t, t < 6 → f (8 + t) = (if vR N t < 3 then nI (vY N (vR N t)) else 0)) ∧ (∀ t, t < 6 → f (14 + t) = (if vG N t = true then 1 else 0)) ∧ f 20 = nI (vN N) ∧ ∀ i, i < vN N → f (21 + i) = nI (vW N i)
def NOK (N : NV) (T R : Nat) : Prop :=
  vD N ≤ 200 ∧ (∀ t, t < 6 → vR N t ≤ 3 ∧ (vR N t < 3 → vR N t < R)) ∧ (∀ t, T ≤ t → vR N t = 3 ∧ vG N t = false) ∧ (∀ r, r < 3 → vY N r ≤ vD N) ∧ vN N ≤ 5 ∧ ∀ i, i < vN N → vW N i ≤ 10
def sameX (F : Nat → Nat → Prop) (σ σ' : Mem) : Prop := ∀ o k, ¬ F o k → mI σ' o k = mI σ o k ∧ mL σ' o k = mL σ o k ∧ mP σ' o k = mP σ o k ∧ mA σ' o k = mA σ o k ∧ mB σ' o k = mB σ o k ∧ mE σ' o k = mE σ o k
theorem sameX.rf {F : Nat → Nat → Prop} {σ : Mem} : sameX F σ σ := fun _ _ _ => ⟨rfl, rfl, rfl, rfl, rfl, rfl⟩
theorem sameX.tr {F : Nat → Nat → Prop} {σ σ1 σ2 : Mem} (h1 : sameX F σ σ1) (h2 : sameX F σ1 σ2) : sameX F σ σ2 := fun o k h => by
  obtain ⟨a1, a2, a3, a4, a5, a6⟩ := h1 o k h
  obtain ⟨b1, b2, b3, b4, b5, b6⟩ := h2 o k h
  exact ⟨b1.trans a1, b2.trans a2, b3.trans a3, b4.trans a4, b5.trans a5, b6.trans a6⟩
theorem sameX.mono {F F' : Nat → Nat → Prop} {σ σ1 : Mem} (h : sameX F σ σ1) (hF : ∀ o k, F o k → F' o k) : sameX F' σ σ1 := fun o k hn => h o k (fun q => hn (hF o k q))
theorem sameX.sI {F : Nat → Nat → Prop} {σ σ1 : Mem} (h : sameX F σ σ1) {o k : Nat} (hF : F o k) (v : Int32) : sameX F σ (sI σ1 o k v) := fun o' k' hn => by
  obtain ⟨a1, a2, a3, a4, a5, a6⟩ := h o' k' hn
  exact ⟨by rw [mI_sI, if_neg (fun e => hn (by rw [e.1, e.2]; exact hF))]; exact a1, a2, a3, a4, a5, a6⟩
theorem sameX.sL {F : Nat → Nat → Prop} {σ σ1 : Mem} (h : sameX F σ σ1) {o k : Nat} (hF : F o k) (v : Int64) : sameX F σ (sL σ1 o k v) := fun o' k' hn => by
  obtain ⟨a1, a2, a3, a4, a5, a6⟩ := h o' k' hn
  exact ⟨a1, by rw [mL_sL, if_neg (fun e => hn (by rw [e.1, e.2]; exact hF))]; exact a2, a3, a4, a5, a6⟩
theorem sameX.sP {F : Nat → Nat → Prop} {σ σ1 : Mem} (h : sameX F σ σ1) {o k : Nat} (hF : F o k) (v : Nat) : sameX F σ (sP σ1 o k v) := fun o' k' hn => by
  obtain ⟨a1, a2, a3, a4, a5, a6⟩ := h o' k' hn
  exact ⟨a1, a2, by rw [mP_sP, if_neg (fun e => hn (by rw [e.1, e.2]; exact hF))]; exact a3, a4, a5, a6⟩
theorem sameX.sA {F : Nat → Nat → Prop} {σ σ1 : Mem} (h : sameX F σ σ1) {o k : Nat} (hF : F o k) (i : Nat) (v : Int32) : sameX F σ (sA σ1 o k i v) := fun o' k' hn => by
  obtain ⟨a1, a2, a3, a4, a5, a6⟩ := h o' k' hn
  exact ⟨a1, a2, a3, by rw [mA_sAg, if_neg (fun e => hn (by rw [e.1, e.2]; exact hF))]; exact a4, a5, a6⟩
theorem sameX.sB {F : Nat → Nat → Prop} {σ σ1 : Mem} (h : sameX F σ σ1) {o k : Nat} (hF : F o k) (i : Nat) (v : Int64) : sameX F σ (sB σ1 o k i v) := fun o' k' hn => by
  obtain ⟨a1, a2, a3, a4, a5, a6⟩ := h o' k' hn
  exact ⟨a1, a2, a3, a4, by rw [mB_sBg, if_neg (fun e => hn (by rw [e.1, e.2]; exact hF))]; exact a5, a6⟩
theorem NC.keep {F : Nat → Nat → Prop} {σ σ' : Mem} {o : Nat} {N : NV} (h : NC σ o N) (hs : sameX F σ σ') (hF : ∀ k, ¬ F o k) : NC σ' o N := by
  obtain ⟨h1, h2, h3, h4, h5, h6⟩ := h
  refine ⟨?_, ?_, ?_, ?_, fun r hr => ?_, fun r hr => ?_⟩
  · rw [(hs o 0 (hF 0)).1]; exact h1
  · rw [(hs o 1 (hF 1)).1]; exact h2
  · rw [(hs o 2 (hF 2)).1]; exact h3
  · rw [(hs o 3 (hF 3)).1]; exact h4
  · rw [(hs o 4 (hF 4)).2.2.2.1]; exact h5 r hr
  · rw [(hs o 5 (hF 5)).2.2.2.1]; exact h6 r hr
/-! the class's Now -/
theorem rowWith_g {σ : Mem} {a b : Nat} {rw : Nat → Nat} (h : ∀ r, r < 3 → mA σ a b r = nI (bs6 (fun t => decide (rw t = r)))) {t : Nat} (ht : t < 6) (hr : rw t ≤ 3) : fX5_rowWith σ a b 3 (nI t) = some (if rw t < 3 then nI (rw t) else -9) := by
  obtain ⟨m, hm⟩ : ∃ m, FU = m + 4 := ⟨996, rfl⟩
  have e : rw t = 0 ∨ rw t = 1 ∨ rw t = 2 ∨ rw t = 3 := by omega
  rcases e with e | e | e | e <;>
  simp (disch := omega) only [fX5_rowWith, hm, fX5_rowWith_2, stp_s, bd_s, bd2_s, gd_t, gd_in, clampN, fa_lit, ofN, nI_add, pk_mul, leN, ltN, eqN, h, bs6_bitN _ ht, e, Nat.reduceEqDiff, Nat.reduceAdd, Nat.reduceMul, Nat.reduceSub, Nat.reduceLT, Nat.reduceLeDiff, Nat.reduceDiv, Nat.reduceMod, Nat.reduceBEq, and_true, true_and, and_false, false_and, and_self, ite_true, ite_false, if_true, if_false, reduceIte, eq_self, not_true, not_false_eq_true, Bool.true_and, Bool.and_true, Bool.false_and, Bool.and_false, Bool.or_true, Bool.true_or, Bool.or_false, Bool.false_or, Bool.not_true, Bool.not_false, reduceCtorEq, upd_e, Nat.add_eq_zero_iff, Nat.add_right_cancel_iff, Nat.add_left_cancel_iff, decide_true, decide_false, Bool.false_eq_true]
theorem NC.rowOf {σ : Mem} {o : Nat} {N : NV} (h : NC σ o N) {t : Nat} (ht : t < 6) (hr : vR N t ≤ 3) : fX2_rowOf σ o (nI t) = some (if vR N t < 3 then nI (vR N t) else -9) := by
  unfold fX2_rowOf
  rw [rowWith_g h.2.2.2.2.1 ht hr]
  rfl
theorem neg_lt0 : (-9 : Int32) < 0 := by decide
theorem NC.daysInRow {σ : Mem} {o : Nat} {N : NV} (h : NC σ o N) {t : Nat} (ht : t < 6) (hr : vR N t ≤ 3) : fX2_daysInRow σ o (nI t) = some (if vR N t < 3 then nI (vY N (vR N t)) else 0) := by
  unfold fX2_daysInRow
  rw [h.rowOf ht hr]
  by_cases e : vR N t < 3
  · rw [if_pos e, if_pos e]
    simp (disch := omega) only [stp_s, bd_s, bd2_s, gd_t, gd_in, clampN, fa_lit, ofN, nI_add, pk_mul, leN, ltN, eqN, eqNg, gNeq, gNlt, gNle, ltNg, leNg, gg, mI_sI, mI_sL, mI_sP, mI_sA, mI_sB, mL_sI, mL_sL, mL_sP, mL_sA, mL_sB, mP_sI, mP_sL, mP_sP, mP_sA, mP_sB, mA_sI, mA_sL, mA_sP, mA_sAg, mA_sB, mB_sI, mB_sL, mB_sP, mB_sA, mB_sBg, mE_sI, mE_sL, mE_sP, mE_sA, mE_sB, Nat.reduceEqDiff, Nat.reduceAdd, Nat.reduceMul, Nat.reduceSub, Nat.reduceLT, Nat.reduceLeDiff, Nat.reduceDiv, Nat.reduceMod, Nat.reduceBEq, and_true, true_and, and_false, false_and, and_self, ite_true, ite_false, if_true, if_false, reduceIte, eq_self, not_true, not_false_eq_true, Bool.true_and, Bool.and_true, Bool.false_and, Bool.and_false, Bool.or_true, Bool.true_or, Bool.or_false, Bool.false_or, Bool.not_true, Bool.not_false, reduceCtorEq, upd_e, Nat.add_eq_zero_iff, Nat.add_right_cancel_iff, Nat.add_left_cancel_iff, decide_true, decide_false, Bool.false_eq_true, decide_eq_true_eq, h.2.2.2.2.2, Nat.not_lt_zero]
    rw [if_neg (by omega)]
  · rw [if_neg e, if_neg e]
    simp only [bd_s, neg_lt0, if_true]
theorem NC.isGone {σ : Mem} {o : Nat} {N : NV} (h : NC σ o N) {t : Nat} (ht : t < 6) : fX2_isGone σ o (nI t) = some (if vG N t = true then 1 else 0) := by
  unfold fX2_isGone
  rw [h.2.2.1]
  simp only [bs6_bit _ ht]
  cases vG N t <;> rfl
def leave (N : NV) (H l : Nat) : Nat → Bool := fun t => decide (vR N t < 3) && decide (H ≤ vY N (vR N t) + l)
theorem NC.mayLeave {σ : Mem} {o : Nat} {N : NV} (h : NC σ o N) {H l : Nat} (hH : H < 1000) (hl : l < 1000) (hy : ∀ r, r < 3 → vY N r < 1000) (hr : ∀ t, t < 6 → vR N t ≤ 3) : fX2_mayLeave σ o (nI H) (nI l) = some (nI (bs6 (leave N H l))) := by
  obtain ⟨m, hm⟩ : ∃ m, FU = m + 4 := ⟨996, rfl⟩
  have h0 := hy 0 (by decide); have h1 := hy 1 (by decide); have h2 := hy 2 (by decide)
  have key : ∀ b : Nat → Bool, (∀ t, t < 6 → b t = leave N H l t) → some (nI (bs6 b)) = some (nI (bs6 (leave N H l))) := fun b hb => by rw [bs6_c hb]
  have lv : ∀ t, t < 6 → leave N H l t = ((decide (vR N t = 0) && decide (H ≤ vY N 0 + l)) || (decide (vR N t = 1) && decide (H ≤ vY N 1 + l)) || (decide (vR N t = 2) && decide (H ≤ vY N 2 + l))) := by
    intro t ht
    have := hr t ht
    unfold leave
    have e : vR N t = 0 ∨ vR N t = 1 ∨ vR N t = 2 ∨ vR N t = 3 := by omega
    rcases e with e | e | e | e <;> simp [e]
  simp (disch := omega) only [fX2_mayLeave, hm, fX2_mayLeave_5, stp_s, bd_s, bd2_s, gd_t, gd_in, clampN, fa_lit, ofN, nI_add, pk_mul, leN, ltN, eqN, eqNg, gNeq, gNlt, gNle, ltNg, leNg, gg, mI_sI, mI_sL, mI_sP, mI_sA, mI_sB, mL_sI, mL_sL, mL_sP, mL_sA, mL_sB, mP_sI, mP_sL, mP_sP, mP_sA, mP_sB, mA_sI, mA_sL, mA_sP, mA_sAg, mA_sB, mB_sI, mB_sL, mB_sP, mB_sA, mB_sBg, mE_sI, mE_sL, mE_sP, mE_sA, mE_sB, Nat.reduceEqDiff, Nat.reduceAdd, Nat.reduceMul, Nat.reduceSub, Nat.reduceLT, Nat.reduceLeDiff, Nat.reduceDiv, Nat.reduceMod, Nat.reduceBEq, and_true, true_and, and_false, false_and, and_self, ite_true, ite_false, if_true, if_false, reduceIte, eq_self, not_true, not_false_eq_true, Bool.true_and, Bool.and_true, Bool.false_and, Bool.and_false, Bool.or_true, Bool.true_or, Bool.or_false, Bool.false_or, Bool.not_true, Bool.not_false, reduceCtorEq, upd_e, Nat.add_eq_zero_iff, Nat.add_right_cancel_iff, Nat.add_left_cancel_iff, decide_true, decide_false, Bool.false_eq_true, decide_eq_true_eq, h.2.2.2.2.1, h.2.2.2.2.2]
  rw [bs6_0N]
  by_cases e0 : vY N 0 + l < H <;> by_cases e1 : vY N 1 + l < H <;> by_cases e2 : vY N 2 + l < H <;>
  simp only [e0, e1, e2, if_true, if_false, bs6_oo] <;> refine key _ (fun t ht => ?_) <;> rw [lv t ht] <;> simp [Nat.not_le.mpr, e0, e1, e2, Nat.not_lt.mp, *] <;> omega
def vin (c : Nat) : Nat := if c = 0 then 0 else 1 + c / 2
theorem vin_ok (b : Nat → Bool) : fX2_vinegarFor (nI (bs6 b)) = some (nI (vin (ct6 b))) := by
  unfold fX2_vinegarFor
  have hb := bs6_lt b
  have hc := ct6_le b
  rw [bs6_ct]
  have e := bs6_eq0 b
  by_cases h0 : bs6 b = 0
  · rw [h0, e.mp h0]; rfl
  · have h1 : ¬ nI (bs6 b) = 0 := by
      rw [l0, eqN (by omega) (by omega)]; exact h0
    rw [if_neg h1, bd_s]
    unfold vin
    rw [if_neg (fun q => h0 (e.mpr q))]
    rw [show (2 : Int32) = nI 2 from rfl, pk_div (by omega) (by decide) (by decide), l1, nI_add]
theorem vin_le {c : Nat} (h : c ≤ 6) : vin c ≤ 4 := by
  unfold vin
  split <;> omega
def cnt (N : NV) (r : Nat) : Nat := ct6 (fun t => decide (vR N t = r))
def passN (N : NV) : NV := (vD N + 1, vV N + nI (vin (cnt N 0)) + nI (vin (cnt N 1)) + nI (vin (cnt N 2)), vR N, fun r => vY N r + 1, vG N, vN N, vW N)
theorem lt3 {P : Nat → Prop} (h0 : P 0) (h1 : P 1) (h2 : P 2) : ∀ r, r < 3 → P r := fun r hr => by
  match r, hr with
  | 0, _ => exact h0
  | 1, _ => exact h1
  | 2, _ => exact h2
  | n + 3, h => exact absurd h (by omega)
theorem NC.passDay {σ : Mem} {o : Nat} {N : NV} (h : NC σ o N) : ∃ σ', fX2_passDay σ o = some σ' ∧ NC σ' o (passN N) ∧ sameX (fun o' _ => o' = o) σ σ' := by
  obtain ⟨m, hm⟩ : ∃ m, FU = m + 4 := ⟨996, rfl⟩
  obtain ⟨h1, h2, h3, h4, h5, h6⟩ := h
  have a0 := h5 0 (by decide); have a1 := h5 1 (by decide); have a2 := h5 2 (by decide)
  have y0 := h6 0 (by decide); have y1 := h6 1 (by decide); have y2 := h6 2 (by decide)
  refine exS (by simp (disch := omega) only [fX2_passDay, hm, fX2_passDay_12, stp_s, bd_s, bd2_s, gd_t, gd_in, clampN, fa_lit, ofN, nI_add, pk_mul, leN, ltN, eqN, eqNg, gNeq, gNlt, gNle, ltNg, leNg, gg, mI_sI, mI_sL, mI_sP, mI_sA, mI_sB, mL_sI, mL_sL, mL_sP, mL_sA, mL_sB, mP_sI, mP_sL, mP_sP, mP_sA, mP_sB, mA_sI, mA_sL, mA_sP, mA_sAg, mA_sB, mB_sI, mB_sL, mB_sP, mB_sA, mB_sBg, mE_sI, mE_sL, mE_sP, mE_sA, mE_sB, Nat.reduceEqDiff, Nat.reduceAdd, Nat.reduceMul, Nat.reduceSub, Nat.reduceLT, Nat.reduceLeDiff, Nat.reduceDiv, Nat.reduceMod, Nat.reduceBEq, and_true, true_and, and_false, false_and, and_self, ite_true, ite_false, if_true, if_false, reduceIte, eq_self, not_true, not_false_eq_true, Bool.true_and, Bool.and_true, Bool.false_and, Bool.and_false, Bool.or_true, Bool.true_or, Bool.or_false, Bool.false_or, Bool.not_true, Bool.not_false, reduceCtorEq, upd_e, Nat.add_eq_zero_iff, Nat.add_right_cancel_iff, Nat.add_left_cancel_iff, decide_true, decide_false, Bool.false_eq_true, decide_eq_true_eq, a0, a1, a2, y0, y1, y2, h1, h2, vin_ok]; rfl) ⟨?n, ?s⟩
  case n =>
    refine ⟨?_, ?_, ?_, ?_, lt3 ?_ ?_ ?_, lt3 ?_ ?_ ?_⟩ <;> simp (disch := omega) only [mI_sI, mI_sL, mI_sP, mI_sA, mI_sB, mL_sI, mL_sL, mL_sP, mL_sA, mL_sB, mP_sI, mP_sL, mP_sP, mP_sA, mP_sB, mA_sI, mA_sL, mA_sP, mA_sAg, mA_sB, mB_sI, mB_sL, mB_sP, mB_sA, mB_sBg, mE_sI, mE_sL, mE_sP, mE_sA, mE_sB, Nat.reduceEqDiff, Nat.reduceAdd, Nat.reduceMul, Nat.reduceSub, Nat.reduceLT, Nat.reduceLeDiff, Nat.reduceDiv, Nat.reduceMod, Nat.reduceBEq, and_true, true_and, and_false, false_and, and_self, ite_true, ite_false, if_true, if_false, reduceIte, eq_self, not_true, not_false_eq_true, Bool.true_and, Bool.and_true, Bool.false_and, Bool.and_false, Bool.or_true, Bool.true_or, Bool.or_false, Bool.false_or, Bool.not_true, Bool.not_false, reduceCtorEq, upd_e, Nat.add_eq_zero_iff, Nat.add_right_cancel_iff, Nat.add_left_cancel_iff, h3, h4, a0, a1, a2, y0, y1, y2] <;> rfl
  case s =>
    repeat (first | exact sameX.rf | refine sameX.sI ?_ (by first | rfl | exact Or.inl rfl | exact Or.inr rfl | trivial | decide | omega | simp) _ | refine sameX.sA ?_ (by first | rfl | exact Or.inl rfl | exact Or.inr rfl | trivial | decide | omega | simp) _ _ | refine sameX.sL ?_ (by first | rfl | exact Or.inl rfl | exact Or.inr rfl | trivial | decide | omega | simp) _ | refine sameX.sP ?_ (by first | rfl | exact Or.inl rfl | exact Or.inr rfl | trivial | decide | omega | simp) _ | refine sameX.sB ?_ (by first | rfl | exact Or.inl rfl | exact Or.inr rfl | trivial | decide | omega | simp) _ _)
def goN (N : NV) (t : Nat) : NV := (vD N, vV N, fun j => if j = t then 3 else vR N j, vY N, fun j => vG N j || decide (j = t), vN N, vW N)
theorem NC.letGo {σ : Mem} {o : Nat} {N : NV} (h : NC σ o N) {t : Nat} (ht : t < 6) : ∃ σ', fX2_letGo σ o (nI t) = some σ' ∧ NC σ' o (goN N t) ∧ sameX (fun o' _ => o' = o) σ σ' := by
  obtain ⟨m, hm⟩ : ∃ m, FU = m + 4 := ⟨996, rfl⟩
  obtain ⟨h1, h2, h3, h4, h5, h6⟩ := h
  have a0 := h5 0 (by decide); have a1 := h5 1 (by decide); have a2 := h5 2 (by decide)
  have key : ∀ r, r < 3 → bs6 (fun j => decide (vR N j = r) && !decide (j = t)) = bs6 (fun j => decide ((if j = t then 3 else vR N j) = r)) := fun r hr => bs6_c (fun j hj => by
    by_cases e : j = t
    · simp [e]; omega
    · simp [e])
  refine exS (by simp (disch := omega) only [fX2_letGo, hm, fX2_letGo_14, stp_s, bd_s, bd2_s, gd_t, gd_in, clampN, fa_lit, ofN, nI_add, pk_mul, leN, ltN, eqN, eqNg, gNeq, gNlt, gNle, ltNg, leNg, gg, mI_sI, mI_sL, mI_sP, mI_sA, mI_sB, mL_sI, mL_sL, mL_sP, mL_sA, mL_sB, mP_sI, mP_sL, mP_sP, mP_sA, mP_sB, mA_sI, mA_sL, mA_sP, mA_sAg, mA_sB, mB_sI, mB_sL, mB_sP, mB_sA, mB_sBg, mE_sI, mE_sL, mE_sP, mE_sA, mE_sB, Nat.reduceEqDiff, Nat.reduceAdd, Nat.reduceMul, Nat.reduceSub, Nat.reduceLT, Nat.reduceLeDiff, Nat.reduceDiv, Nat.reduceMod, Nat.reduceBEq, and_true, true_and, and_false, false_and, and_self, ite_true, ite_false, if_true, if_false, reduceIte, eq_self, not_true, not_false_eq_true, Bool.true_and, Bool.and_true, Bool.false_and, Bool.and_false, Bool.or_true, Bool.true_or, Bool.or_false, Bool.false_or, Bool.not_true, Bool.not_false, reduceCtorEq, upd_e, Nat.add_eq_zero_iff, Nat.add_right_cancel_iff, Nat.add_left_cancel_iff, decide_true, decide_false, Bool.false_eq_true, decide_eq_true_eq, a0, a1, a2, h3, bs6_orN _ ht, bs6_anN _ ht]; rfl) ⟨?n, ?s⟩
  case n =>
    refine ⟨?_, ?_, ?_, ?_, lt3 ?_ ?_ ?_, fun r hr => ?_⟩ <;> simp (disch := omega) only [mI_sI, mI_sL, mI_sP, mI_sA, mI_sB, mL_sI, mL_sL, mL_sP, mL_sA, mL_sB, mP_sI, mP_sL, mP_sP, mP_sA, mP_sB, mA_sI, mA_sL, mA_sP, mA_sAg, mA_sB, mB_sI, mB_sL, mB_sP, mB_sA, mB_sBg, mE_sI, mE_sL, mE_sP, mE_sA, mE_sB, Nat.reduceEqDiff, Nat.reduceAdd, Nat.reduceMul, Nat.reduceSub, Nat.reduceLT, Nat.reduceLeDiff, Nat.reduceDiv, Nat.reduceMod, Nat.reduceBEq, and_true, true_and, and_false, false_and, and_self, ite_true, ite_false, if_true, if_false, reduceIte, eq_self, not_true, not_false_eq_true, Bool.true_and, Bool.and_true, Bool.false_and, Bool.and_false, Bool.or_true, Bool.true_or, Bool.or_false, Bool.false_or, Bool.not_true, Bool.not_false, reduceCtorEq, upd_e, Nat.add_eq_zero_iff, Nat.add_right_cancel_iff, Nat.add_left_cancel_iff, h1, h2, h3, h4, a0, a1, a2, key] <;> first | rfl | exact h6 r hr
  case s =>
    repeat (first | exact sameX.rf | refine sameX.sI ?_ (by first | rfl | exact Or.inl rfl | exact Or.inr rfl | trivial | decide | omega | simp) _ | refine sameX.sA ?_ (by first | rfl | exact Or.inl rfl | exact Or.inr rfl | trivial | decide | omega | simp) _ _ | refine sameX.sL ?_ (by first | rfl | exact Or.inl rfl | exact Or.inr rfl | trivial | decide | omega | simp) _ | refine sameX.sP ?_ (by first | rfl | exact Or.inl rfl | exact Or.inr rfl | trivial | decide | omega | simp) _ | refine sameX.sB ?_ (by first | rfl | exact Or.inl rfl | exact Or.inr rfl | trivial | decide | omega | simp) _ _)
theorem NC.becomeAs {σ : Mem} {o q : Nat} {N : NV} (h : NC σ q N) (hne : q ≠ o) : ∃ σ', fX2_becomeAs σ o q = some σ' ∧ NC σ' o N ∧ sameX (fun o' _ => o' = o) σ σ' := by
  obtain ⟨m, hm⟩ : ∃ m, FU = m + 4 := ⟨996, rfl⟩
  obtain ⟨h1, h2, h3, h4, h5, h6⟩ := h
  have a0 := h5 0 (by decide); have a1 := h5 1 (by decide); have a2 := h5 2 (by decide)
  have y0 := h6 0 (by decide); have y1 := h6 1 (by decide); have y2 := h6 2 (by decide)
  refine exS (by simp (disch := omega) only [fX2_becomeAs, hm, fX2_becomeAs_34, stp_s, bd_s, bd2_s, gd_t, gd_in, clampN, fa_lit, ofN, nI_add, pk_mul, leN, ltN, eqN, eqNg, gNeq, gNlt, gNle, ltNg, leNg, gg, mI_sI, mI_sL, mI_sP, mI_sA, mI_sB, mL_sI, mL_sL, mL_sP, mL_sA, mL_sB, mP_sI, mP_sL, mP_sP, mP_sA, mP_sB, mA_sI, mA_sL, mA_sP, mA_sAg, mA_sB, mB_sI, mB_sL, mB_sP, mB_sA, mB_sBg, mE_sI, mE_sL, mE_sP, mE_sA, mE_sB, Nat.reduceEqDiff, Nat.reduceAdd, Nat.reduceMul, Nat.reduceSub, Nat.reduceLT, Nat.reduceLeDiff, Nat.reduceDiv, Nat.reduceMod, Nat.reduceBEq, and_true, true_and, and_false, false_and, and_self, ite_true, ite_false, if_true, if_false, reduceIte, eq_self, not_true, not_false_eq_true, Bool.true_and, Bool.and_true, Bool.false_and, Bool.and_false, Bool.or_true, Bool.true_or, Bool.or_false, Bool.false_or, Bool.not_true, Bool.not_false, reduceCtorEq, upd_e, Nat.add_eq_zero_iff, Nat.add_right_cancel_iff, Nat.add_left_cancel_iff, decide_true, decide_false, Bool.false_eq_true, decide_eq_true_eq, a0, a1, a2, y0, y1, y2, h1, h2, h3, h4, hne]; rfl) ⟨?n, ?s⟩
  case n =>
    refine ⟨?_, ?_, ?_, ?_, lt3 ?_ ?_ ?_, lt3 ?_ ?_ ?_⟩ <;> simp (disch := omega) only [mI_sI, mI_sL, mI_sP, mI_sA, mI_sB, mL_sI, mL_sL, mL_sP, mL_sA, mL_sB, mP_sI, mP_sL, mP_sP, mP_sA, mP_sB, mA_sI, mA_sL, mA_sP, mA_sAg, mA_sB, mB_sI, mB_sL, mB_sP, mB_sA, mB_sBg, mE_sI, mE_sL, mE_sP, mE_sA, mE_sB, Nat.reduceEqDiff, Nat.reduceAdd, Nat.reduceMul, Nat.reduceSub, Nat.reduceLT, Nat.reduceLeDiff, Nat.reduceDiv, Nat.reduceMod, Nat.reduceBEq, and_true, true_and, and_false, false_and, and_self, ite_true, ite_false, if_true, if_false, reduceIte, eq_self, not_true, not_false_eq_true, Bool.true_and, Bool.and_true, Bool.false_and, Bool.and_false, Bool.or_true, Bool.true_or, Bool.or_false, Bool.false_or, Bool.not_true, Bool.not_false, reduceCtorEq, upd_e, Nat.add_eq_zero_iff, Nat.add_right_cancel_iff, Nat.add_left_cancel_iff]
  case s =>
    repeat (first | exact sameX.rf | refine sameX.sI ?_ (by first | rfl | exact Or.inl rfl | exact Or.inr rfl | trivial | decide | omega | simp) _ | refine sameX.sA ?_ (by first | rfl | exact Or.inl rfl | exact Or.inr rfl | trivial | decide | omega | simp) _ _ | refine sameX.sL ?_ (by first | rfl | exact Or.inl rfl | exact Or.inr rfl | trivial | decide | omega | simp) _ | refine sameX.sP ?_ (by first | rfl | exact Or.inl rfl | exact Or.inr rfl | trivial | decide | omega | simp) _ | refine sameX.sB ?_ (by first | rfl | exact Or.inl rfl | exact Or.inr rfl | trivial | decide | omega | simp) _ _)
def N0 : NV := (0, 0, fun _ => 3, fun _ => 0, fun _ => false, 0, fun _ => 0)
theorem fill3 {σ : Mem} {a b : Nat} : fJ7_fill_53178 σ a b 3 0 = some (sA (sA (sA σ a b 0 0) a b 1 0) a b 2 0) := by
  obtain ⟨m, hm⟩ : ∃ m, FU = m + 4 := ⟨996, rfl⟩
  simp (disch := omega) only [fJ7_fill_53178, hm, fJ7_fill_53178_5, stp_s, bd_s, bd2_s, gd_t, gd_in, clampN, fa_lit, ofN, nI_add, pk_mul, leN, ltN, eqN, eqNg, gNeq, gNlt, gNle, ltNg, leNg, gg, mI_sI, mI_sL, mI_sP, mI_sA, mI_sB, mL_sI, mL_sL, mL_sP, mL_sA, mL_sB, mP_sI, mP_sL, mP_sP, mP_sA, mP_sB, mA_sI, mA_sL, mA_sP, mA_sAg, mA_sB, mB_sI, mB_sL, mB_sP, mB_sA, mB_sBg, mE_sI, mE_sL, mE_sP, mE_sA, mE_sB, Nat.reduceEqDiff, Nat.reduceAdd, Nat.reduceMul, Nat.reduceSub, Nat.reduceLT, Nat.reduceLeDiff, Nat.reduceDiv, Nat.reduceMod, Nat.reduceBEq, and_true, true_and, and_false, false_and, and_self, ite_true, ite_false, if_true, if_false, reduceIte, eq_self, not_true, not_false_eq_true, Bool.true_and, Bool.and_true, Bool.false_and, Bool.and_false, Bool.or_true, Bool.true_or, Bool.or_false, Bool.false_or, Bool.not_true, Bool.not_false, reduceCtorEq, upd_e, Nat.add_eq_zero_iff, Nat.add_right_cancel_iff, Nat.add_left_cancel_iff, decide_true, decide_false, Bool.false_eq_true, decide_eq_true_eq]
theorem NC.beginAnew {σ : Mem} {o : Nat} : ∃ σ', fX2_beginAnew σ o = some σ' ∧ NC σ' o N0 ∧ sameX (fun o' _ => o' = o) σ σ' := by
  refine exS (by simp only [fX2_beginAnew, stp_s, bd_s, bd2_s, gd_t, fill3]; rfl) ⟨?n, ?s⟩
  case n =>
    refine ⟨?_, ?_, ?_, ?_, lt3 ?_ ?_ ?_, lt3 ?_ ?_ ?_⟩ <;> simp (disch := omega) only [mI_sI, mI_sL, mI_sP, mI_sA, mI_sB, mL_sI, mL_sL, mL_sP, mL_sA, mL_sB, mP_sI, mP_sL, mP_sP, mP_sA, mP_sB, mA_sI, mA_sL, mA_sP, mA_sAg, mA_sB, mB_sI, mB_sL, mB_sP, mB_sA, mB_sBg, mE_sI, mE_sL, mE_sP, mE_sA, mE_sB, Nat.reduceEqDiff, Nat.reduceAdd, Nat.reduceMul, Nat.reduceSub, Nat.reduceLT, Nat.reduceLeDiff, Nat.reduceDiv, Nat.reduceMod, Nat.reduceBEq, and_true, true_and, and_false, false_and, and_self, ite_true, ite_false, if_true, if_false, reduceIte, eq_self, not_true, not_false_eq_true, Bool.true_and, Bool.and_true, Bool.false_and, Bool.and_false, Bool.or_true, Bool.true_or, Bool.or_false, Bool.false_or, Bool.not_true, Bool.not_false, reduceCtorEq, upd_e, Nat.add_eq_zero_iff, Nat.add_right_cancel_iff, Nat.add_left_cancel_iff] <;> rfl
  case s =>
    repeat (first | exact sameX.rf | refine sameX.sI ?_ (by first | rfl | exact Or.inl rfl | exact Or.inr rfl | trivial | decide | omega | simp) _ | refine sameX.sA ?_ (by first | rfl | exact Or.inl rfl | exact Or.inr rfl | trivial | decide | omega | simp) _ _ | refine sameX.sL ?_ (by first | rfl | exact Or.inl rfl | exact Or.inr rfl | trivial | decide | omega | simp) _ | refine sameX.sP ?_ (by first | rfl | exact Or.inl rfl | exact Or.inr rfl | trivial | decide | omega | simp) _ | refine sameX.sB ?_ (by first | rfl | exact Or.inl rfl | exact Or.inr rfl | trivial | decide | omega | simp) _ _)
theorem NC.remember {σ : Mem} {N : NV} (h : NC σ 4 N) {x kn : Nat} (hx : mI σ 5 1 = nI x) (hx9 : x < 10) (hk : mI σ 5 0 = nI kn) (hk10 : kn ≤ 10) (hE : mE σ 5 2 x = 9 + x) : ∃ σ', fX0_remember σ 5 4 = some σ' ∧ NC σ' (9 + x) N ∧ mI σ' 5 1 = nI (if x = 9 then 0 else x + 1) ∧ mI σ' 5 0 = nI (if kn = 10 then 10 else kn + 1) ∧ sameX (fun o k => o = 9 + x ∨ (o = 5 ∧ k < 2)) σ σ' := by
  obtain ⟨σ1, e1, n1, s1⟩ := h.becomeAs (o := 9 + x) (by omega)
  have h51 : mI σ1 5 1 = nI x := by rw [(s1 5 1 (by omega)).1]; exact hx
  have h50 : mI σ1 5 0 = nI kn := by rw [(s1 5 0 (by omega)).1]; exact hk
  have s1' : sameX (fun o k => o = 9 + x ∨ (o = 5 ∧ k < 2)) σ σ1 := s1.mono (fun o k h => Or.inl h)
  have hmn : mnI (nI kn + 1) 10 = nI (if kn = 10 then 10 else kn + 1) := by
    unfold mnI
    rw [l1, nI_add, show (10 : Int32) = nI 10 from rfl, iteL (by omega) (by omega)]
    by_cases e : kn = 10
    · rw [if_pos e, if_pos (by omega)]
    · rw [if_neg e, if_neg (by omega)]
  unfold fX0_remember
  rw [hx, gd_in hx9 (by decide), clampN (by omega), hE, e1, bd_s, h51, show (9 : Int32) = nI 9 from rfl, iteE (by omega) (by omega)]
  by_cases e : x = 9
  · rw [if_pos e, if_pos e]
    refine exS (by simp only [fX0_remember_33, stp_s, bd_s, bd2_s, gd_t]; rfl) ⟨?_, ?_, ?_, ?_⟩
    · exact n1.keep (F := fun o _ => o = 5) (by repeat (first | exact sameX.rf | refine sameX.sI ?_ (by first | rfl | exact Or.inl rfl | exact Or.inr rfl | trivial | decide | omega | simp) _ | refine sameX.sA ?_ (by first | rfl | exact Or.inl rfl | exact Or.inr rfl | trivial | decide | omega | simp) _ _ | refine sameX.sL ?_ (by first | rfl | exact Or.inl rfl | exact Or.inr rfl | trivial | decide | omega | simp) _ | refine sameX.sP ?_ (by first | rfl | exact Or.inl rfl | exact Or.inr rfl | trivial | decide | omega | simp) _ | refine sameX.sB ?_ (by first | rfl | exact Or.inl rfl | exact Or.inr rfl | trivial | decide | omega | simp) _ _)) (fun k => by omega)
    · simp only [mI_sI, mI_sL, mI_sP, mI_sA, mI_sB, mL_sI, mL_sL, mL_sP, mL_sA, mL_sB, mP_sI, mP_sL, mP_sP, mP_sA, mP_sB, mA_sI, mA_sL, mA_sP, mA_sAg, mA_sB, mB_sI, mB_sL, mB_sP, mB_sA, mB_sBg, mE_sI, mE_sL, mE_sP, mE_sA, mE_sB, Nat.reduceEqDiff, Nat.reduceAdd, Nat.reduceMul, Nat.reduceSub, Nat.reduceLT, Nat.reduceLeDiff, Nat.reduceDiv, Nat.reduceMod, Nat.reduceBEq, and_true, true_and, and_false, false_and, and_self, ite_true, ite_false, if_true, if_false, reduceIte, eq_self, not_true, not_false_eq_true, Bool.true_and, Bool.and_true, Bool.false_and, Bool.and_false, Bool.or_true, Bool.true_or, Bool.or_false, Bool.false_or, Bool.not_true, Bool.not_false, reduceCtorEq, upd_e, Nat.add_eq_zero_iff, Nat.add_right_cancel_iff, Nat.add_left_cancel_iff]; rfl
    · simp only [mI_sI, mI_sL, mI_sP, mI_sA, mI_sB, mL_sI, mL_sL, mL_sP, mL_sA, mL_sB, mP_sI, mP_sL, mP_sP, mP_sA, mP_sB, mA_sI, mA_sL, mA_sP, mA_sAg, mA_sB, mB_sI, mB_sL, mB_sP, mB_sA, mB_sBg, mE_sI, mE_sL, mE_sP, mE_sA, mE_sB, Nat.reduceEqDiff, Nat.reduceAdd, Nat.reduceMul, Nat.reduceSub, Nat.reduceLT, Nat.reduceLeDiff, Nat.reduceDiv, Nat.reduceMod, Nat.reduceBEq, and_true, true_and, and_false, false_and, and_self, ite_true, ite_false, if_true, if_false, reduceIte, eq_self, not_true, not_false_eq_true, Bool.true_and, Bool.and_true, Bool.false_and, Bool.and_false, Bool.or_true, Bool.true_or, Bool.or_false, Bool.false_or, Bool.not_true, Bool.not_false, reduceCtorEq, upd_e, Nat.add_eq_zero_iff, Nat.add_right_cancel_iff, Nat.add_left_cancel_iff, h50, hmn]
    · exact (s1'.sI (Or.inr ⟨rfl, by decide⟩) _).sI (Or.inr ⟨rfl, by decide⟩) _
  · rw [if_neg e, if_neg e]
    refine exS (by simp only [fX0_remember_33, stp_s, bd_s, bd2_s, gd_t]; rfl) ⟨?_, ?_, ?_, ?_⟩
    · exact n1.keep (F := fun o _ => o = 5) (by repeat (first | exact sameX.rf | refine sameX.sI ?_ (by first | rfl | exact Or.inl rfl | exact Or.inr rfl | trivial | decide | omega | simp) _ | refine sameX.sA ?_ (by first | rfl | exact Or.inl rfl | exact Or.inr rfl | trivial | decide | omega | simp) _ _ | refine sameX.sL ?_ (by first | rfl | exact Or.inl rfl | exact Or.inr rfl | trivial | decide | omega | simp) _ | refine sameX.sP ?_ (by first | rfl | exact Or.inl rfl | exact Or.inr rfl | trivial | decide | omega | simp) _ | refine sameX.sB ?_ (by first | rfl | exact Or.inl rfl | exact Or.inr rfl | trivial | decide | omega | simp) _ _)) (fun k => by omega)
    · simp only [mI_sI, mI_sL, mI_sP, mI_sA, mI_sB, mL_sI, mL_sL, mL_sP, mL_sA, mL_sB, mP_sI, mP_sL, mP_sP, mP_sA, mP_sB, mA_sI, mA_sL, mA_sP, mA_sAg, mA_sB, mB_sI, mB_sL, mB_sP, mB_sA, mB_sBg, mE_sI, mE_sL, mE_sP, mE_sA, mE_sB, Nat.reduceEqDiff, Nat.reduceAdd, Nat.reduceMul, Nat.reduceSub, Nat.reduceLT, Nat.reduceLeDiff, Nat.reduceDiv, Nat.reduceMod, Nat.reduceBEq, and_true, true_and, and_false, false_and, and_self, ite_true, ite_false, if_true, if_false, reduceIte, eq_self, not_true, not_false_eq_true, Bool.true_and, Bool.and_true, Bool.false_and, Bool.and_false, Bool.or_true, Bool.true_or, Bool.or_false, Bool.false_or, Bool.not_true, Bool.not_false, reduceCtorEq, upd_e, Nat.add_eq_zero_iff, Nat.add_right_cancel_iff, Nat.add_left_cancel_iff, h51, l1, nI_add]
    · simp only [mI_sI, mI_sL, mI_sP, mI_sA, mI_sB, mL_sI, mL_sL, mL_sP, mL_sA, mL_sB, mP_sI, mP_sL, mP_sP, mP_sA, mP_sB, mA_sI, mA_sL, mA_sP, mA_sAg, mA_sB, mB_sI, mB_sL, mB_sP, mB_sA, mB_sBg, mE_sI, mE_sL, mE_sP, mE_sA, mE_sB, Nat.reduceEqDiff, Nat.reduceAdd, Nat.reduceMul, Nat.reduceSub, Nat.reduceLT, Nat.reduceLeDiff, Nat.reduceDiv, Nat.reduceMod, Nat.reduceBEq, and_true, true_and, and_false, false_and, and_self, ite_true, ite_false, if_true, if_false, reduceIte, eq_self, not_true, not_false_eq_true, Bool.true_and, Bool.and_true, Bool.false_and, Bool.and_false, Bool.or_true, Bool.true_or, Bool.or_false, Bool.false_or, Bool.not_true, Bool.not_false, reduceCtorEq, upd_e, Nat.add_eq_zero_iff, Nat.add_right_cancel_iff, Nat.add_left_cancel_iff, h50, hmn]
    · exact (s1'.sI (Or.inr ⟨rfl, by decide⟩) _).sI (Or.inr ⟨rfl, by decide⟩) _
theorem NC.takeBack {σ : Mem} {N : NV} {x y kn : Nat} (hy : y = if x = 0 then 9 else x - 1) (h : NC σ (9 + y) N) (hx : mI σ 5 1 = nI x) (hx9 : x < 10) (hk : mI σ 5 0 = nI (kn + 1)) (hE : mE σ 5 2 y = 9 + y) : ∃ σ', fX0_takeBack σ 5 4 = some σ' ∧ NC σ' 4 N ∧ mI σ' 5 1 = nI y ∧ mI σ' 5 0 = nI kn ∧ sameX (fun o k => o = 4 ∨ (o = 5 ∧ k < 2)) σ σ' := by
  have hy9 : y < 10 := by rw [hy]; split <;> omega
  have main : ∃ σ', fX0_takeBack_19 5 σ 4 (nI y) = some σ' ∧ NC σ' 4 N ∧ mI σ' 5 1 = nI y ∧ mI σ' 5 0 = nI kn ∧ sameX (fun o k => o = 4 ∨ (o = 5 ∧ k < 2)) σ σ' := by
    have hs : NC (sI σ 5 1 (nI y)) (9 + y) N := h.keep (F := fun o _ => o = 5) (by repeat (first | exact sameX.rf | refine sameX.sI ?_ (by first | rfl | exact Or.inl rfl | exact Or.inr rfl | trivial | decide | omega | simp) _ | refine sameX.sA ?_ (by first | rfl | exact Or.inl rfl | exact Or.inr rfl | trivial | decide | omega | simp) _ _ | refine sameX.sL ?_ (by first | rfl | exact Or.inl rfl | exact Or.inr rfl | trivial | decide | omega | simp) _ | refine sameX.sP ?_ (by first | rfl | exact Or.inl rfl | exact Or.inr rfl | trivial | decide | omega | simp) _ | refine sameX.sB ?_ (by first | rfl | exact Or.inl rfl | exact Or.inr rfl | trivial | decide | omega | simp) _ _)) (fun k => by omega)
    obtain ⟨σ1, e1, n1, s1⟩ := hs.becomeAs (o := 4) (by omega)
    have h51 : mI σ1 5 1 = nI y := by rw [(s1 5 1 (by omega)).1, mI_sI]; rfl
    have h50 : mI σ1 5 0 = nI (kn + 1) := by rw [(s1 5 0 (by omega)).1, mI_sI]; exact hk
    unfold fX0_takeBack_19
    rw [stp_s, mI_sI, if_pos ⟨rfl, rfl⟩, gd_in hy9 (by decide), clampN (by omega), mE_sI, hE, e1, bd_s, stp_s, h50]
    refine ⟨_, rfl, ?_, ?_, ?_, ?_⟩
    · exact n1.keep (F := fun o _ => o = 5) (by repeat (first | exact sameX.rf | refine sameX.sI ?_ (by first | rfl | exact Or.inl rfl | exact Or.inr rfl | trivial | decide | omega | simp) _ | refine sameX.sA ?_ (by first | rfl | exact Or.inl rfl | exact Or.inr rfl | trivial | decide | omega | simp) _ _ | refine sameX.sL ?_ (by first | rfl | exact Or.inl rfl | exact Or.inr rfl | trivial | decide | omega | simp) _ | refine sameX.sP ?_ (by first | rfl | exact Or.inl rfl | exact Or.inr rfl | trivial | decide | omega | simp) _ | refine sameX.sB ?_ (by first | rfl | exact Or.inl rfl | exact Or.inr rfl | trivial | decide | omega | simp) _ _)) (fun k => by omega)
    · simp only [mI_sI, mI_sL, mI_sP, mI_sA, mI_sB, mL_sI, mL_sL, mL_sP, mL_sA, mL_sB, mP_sI, mP_sL, mP_sP, mP_sA, mP_sB, mA_sI, mA_sL, mA_sP, mA_sAg, mA_sB, mB_sI, mB_sL, mB_sP, mB_sA, mB_sBg, mE_sI, mE_sL, mE_sP, mE_sA, mE_sB, Nat.reduceEqDiff, Nat.reduceAdd, Nat.reduceMul, Nat.reduceSub, Nat.reduceLT, Nat.reduceLeDiff, Nat.reduceDiv, Nat.reduceMod, Nat.reduceBEq, and_true, true_and, and_false, false_and, and_self, ite_true, ite_false, if_true, if_false, reduceIte, eq_self, not_true, not_false_eq_true, Bool.true_and, Bool.and_true, Bool.false_and, Bool.and_false, Bool.or_true, Bool.true_or, Bool.or_false, Bool.false_or, Bool.not_true, Bool.not_false, reduceCtorEq, upd_e, Nat.add_eq_zero_iff, Nat.add_right_cancel_iff, Nat.add_left_cancel_iff, h51]
    · simp only [mI_sI, mI_sL, mI_sP, mI_sA, mI_sB, mL_sI, mL_sL, mL_sP, mL_sA, mL_sB, mP_sI, mP_sL, mP_sP, mP_sA, mP_sB, mA_sI, mA_sL, mA_sP, mA_sAg, mA_sB, mB_sI, mB_sL, mB_sP, mB_sA, mB_sBg, mE_sI, mE_sL, mE_sP, mE_sA, mE_sB, Nat.reduceEqDiff, Nat.reduceAdd, Nat.reduceMul, Nat.reduceSub, Nat.reduceLT, Nat.reduceLeDiff, Nat.reduceDiv, Nat.reduceMod, Nat.reduceBEq, and_true, true_and, and_false, false_and, and_self, ite_true, ite_false, if_true, if_false, reduceIte, eq_self, not_true, not_false_eq_true, Bool.true_and, Bool.and_true, Bool.false_and, Bool.and_false, Bool.or_true, Bool.true_or, Bool.or_false, Bool.false_or, Bool.not_true, Bool.not_false, reduceCtorEq, upd_e, Nat.add_eq_zero_iff, Nat.add_right_cancel_iff, Nat.add_left_cancel_iff]; exact nI_pred kn
    · have s0 : sameX (fun o k => o = 4 ∨ (o = 5 ∧ k < 2)) σ (sI σ 5 1 (nI y)) := sameX.rf.sI (Or.inr ⟨rfl, by decide⟩) _
      exact (s0.tr (s1.mono (fun o k h => Or.inl h))).sI (Or.inr ⟨rfl, by decide⟩) _
  unfold fX0_takeBack
  rw [hx, l0, iteE (by omega) (by omega)]
  by_cases e : x = 0
  · rw [if_pos e]
    rw [if_pos e] at hy
    subst hy
    exact main
  · rw [if_neg e]
    rw [if_neg e] at hy
    have : nI x - 1 = nI y := by
      obtain ⟨z, rfl⟩ : ∃ z, x = z + 1 := ⟨x - 1, by omega⟩
      rw [nI_pred, hy]; rfl
    rw [this]
    exact main
