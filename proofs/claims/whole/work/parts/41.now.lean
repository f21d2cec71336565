/-! the present, as a value: day, vinegar, row of each (3: none), days of each row, gone, length of the letter, its words -/
abbrev NV : Type := Nat × Int32 × (Nat → Nat) × (Nat → Nat) × (Nat → Bool) × Nat × (Nat → Nat)
def vD (N : NV) : Nat := N.1
def vV (N : NV) : Int32 := N.2.1
def vR (N : NV) : Nat → Nat := N.2.2.1
def vY (N : NV) : Nat → Nat := N.2.2.2.1
def vG (N : NV) : Nat → Bool := N.2.2.2.2.1
def vN (N : NV) : Nat := N.2.2.2.2.2.1
def vW (N : NV) : Nat → Nat := N.2.2.2.2.2.2
def enc (w : Nat → Nat) : Nat → Nat
  | 0 => 1
  | n + 1 => enc w n * 11 + w n
def NC (σ : Mem) (o : Nat) (N : NV) : Prop :=
  mI σ o 0 = nI (vD N) ∧ mI σ o 1 = vV N ∧ mI σ o 2 = nI (bs6 (vG N)) ∧ mI σ o 3 = nI (enc (vW N) (vN N)) ∧
  (∀ r, r < 3 → mA σ o 4 r = nI (bs6 (fun t => decide (vR N t = r)))) ∧ (∀ r, r < 3 → mA σ o 5 r = nI (vY N r))
def NM (f : Nat → Int32) (N : NV) : Prop :=
  f 0 = nI (vD N) ∧ f 1 = vV N ∧ (∀ t, t < 6 → f (2 + t) = (if vR N t < 3 then nI (vR N t) else -9)) ∧ (∀ t, t < 6 → f (8 + t) = (if vR N t < 3 then nI (vY N (vR N t)) else 0)) ∧ (∀ t, t < 6 → f (14 + t) = (if vG N t = true then 1 else 0)) ∧ f 20 = nI (vN N) ∧ ∀ i, i < vN N → f (21 + i) = nI (vW N i)
def NOK (N : NV) (T R : Nat) : Prop :=
  vD N ≤ 200 ∧ (∀ t, t < 6 → vR N t ≤ 3 ∧ (vR N t < 3 → vR N t < R)) ∧ (∀ t, T ≤ t → vR N t = 3 ∧ vG N t = false) ∧ (∀ r, r < 3 → vY N r ≤ vD N) ∧ vN N ≤ 5 ∧ ∀ i, i < vN N → vW N i ≤ 10
def sameX (F : Nat → Nat → Prop) (σ σ' : Mem) : Prop := ∀ o k, ¬ F o k → mI σ' o k = mI σ o k ∧ mL σ' o k = mL σ o k ∧ mP σ' o k = mP σ o k ∧ mA σ' o k = mA σ o k ∧ mB σ' o k = mB σ o k ∧ mE σ' o k = mE σ o k
theorem sameX.rf {F : Nat → Nat → Prop} {σ : Mem} : sameX F σ σ := fun _ _ _ => ⟨rfl, rfl, rfl, rfl, rfl, rfl⟩
theorem sameX.tr {F : Nat → Nat → Prop} {σ σ1 σ2 : Mem} (h1 : sameX F σ σ1) (h2 : sameX F σ1 σ2) : sameX F σ σ2 := fun o k h => by
  obtain ⟨a1, a2, a3, a4, a5, a6⟩ := h1 o k h
  obtain ⟨b1, b2, b3, b4, b5, b6⟩ := h2 o k h
  exact ⟨b1.trans a1, b2.trans a2, b3.trans a3, b4.trans a4, b5.trans a5, b6.trans a6⟩
theorem sameX.mono {F F' : Nat → Nat → Prop} {σ σ1 : Mem} (h : sameX F σ σ1) (hF : ∀ o k, F o k → F' o k) : sameX F' σ σ1 := fun o k hn => h o k (fun q => hn (hF o k q))
theorem sameX.sI {F : Nat → Nat → Prop} {σ σ1 : Mem} (h : sameX F σ σ1) {o k : Nat} (hF : F o k) (v : Int32) : sameX F σ (sI σ1 o k v) := fun o' k' hn => by
  obtain ⟨a1, a2, a3, a4, a5, a6⟩ := h o' k' hn
  exact ⟨by rw [mI_sI, if_neg (fun e => hn (by rw [e.1, e.2]; exact hF))]; exact a1, a2, a3, a4, a5, a6⟩
theorem sameX.sL {F : Nat → Nat → Prop} {σ σ1 : Mem} (h : sameX F σ σ1) {o k : Nat} (hF : F o k) (v : Int64) : sameX F σ (sL σ1 o k v) := fun o' k' hn => by
  obtain ⟨a1, a2, a3, a4, a5, a6⟩ := h o' k' hn
  exact ⟨a1, by rw [mL_sL, if_neg (fun e => hn (by rw [e.1, e.2]; exact hF))]; exact a2, a3, a4, a5, a6⟩
theorem sameX.sP {F : Nat → Nat → Prop} {σ σ1 : Mem} (h : sameX F σ σ1) {o k : Nat} (hF : F o k) (v : Nat) : sameX F σ (sP σ1 o k v) := fun o' k' hn => by
  obtain ⟨a1, a2, a3, a4, a5, a6⟩ := h o' k' hn
  exact ⟨a1, a2, by rw [mP_sP, if_neg (fun e => hn (by rw [e.1, e.2]; exact hF))]; exact a3, a4, a5, a6⟩
theorem sameX.sA {F : Nat → Nat → Prop} {σ σ1 : Mem} (h : sameX F σ σ1) {o k : Nat} (hF : F o k) (i : Nat) (v : Int32) : sameX F σ (sA σ1 o k i v) := fun o' k' hn => by
  obtain ⟨a1, a2, a3, a4, a5, a6⟩ := h o' k' hn
  exact ⟨a1, a2, a3, by rw [mA_sAg, if_neg (fun e => hn (by rw [e.1, e.2]; exact hF))]; exact a4, a5, a6⟩
theorem sameX.sB {F : Nat → Nat → Prop} {σ σ1 : Mem} (h : sameX F σ σ1) {o k : Nat} (hF : F o k) (i : Nat) (v : Int64) : sameX F σ (sB σ1 o k i v) := fun o' k' hn => by
  obtain ⟨a1, a2, a3, a4, a5, a6⟩ := h o' k' hn
  exact ⟨a1, a2, a3, a4, by rw [mB_sBg, if_neg (fun e => hn (by rw [e.1, e.2]; exact hF))]; exact a5, a6⟩
theorem NC.keep {F : Nat → Nat → Prop} {σ σ' : Mem} {o : Nat} {N : NV} (h : NC σ o N) (hs : sameX F σ σ') (hF : ∀ k, ¬ F o k) : NC σ' o N := by
  obtain ⟨h1, h2, h3, h4, h5, h6⟩ := h
  refine ⟨?_, ?_, ?_, ?_, fun r hr => ?_, fun r hr => ?_⟩
  · rw [(hs o 0 (hF 0)).1]; exact h1
  · rw [(hs o 1 (hF 1)).1]; exact h2
  · rw [(hs o 2 (hF 2)).1]; exact h3
  · rw [(hs o 3 (hF 3)).1]; exact h4
  · rw [(hs o 4 (hF 4)).2.2.2.1]; exact h5 r hr
  · rw [(hs o 5 (hF 5)).2.2.2.1]; exact h6 r hr
/-! the class's Now -/
theorem rowWith_g {σ : Mem} {a b : Nat} {rw : Nat → Nat} (h : ∀ r, r < 3 → mA σ a b r = nI (bs6 (fun t => decide (rw t = r)))) {t : Nat} (ht : t < 6) (hr : rw t ≤ 3) : fX5_rowWith σ a b 3 (nI t) = some (if rw t < 3 then nI (rw t) else -9) := by
  obtain ⟨m, hm⟩ : ∃ m, FU = m + 4 := ⟨996, rfl⟩
  have e : rw t = 0 ∨ rw t = 1 ∨ rw t = 2 ∨ rw t = 3 := by omega
  rcases e with e | e | e | e <;>
  simp (disch := omega) only [fX5_rowWith, hm, fX5_rowWith_2, stp_s, bd_s, bd2_s, gd_t, gd_in, clampN, fa_lit, ofN, nI_add, pk_mul, leN, ltN, eqN, h, bs6_bitN _ ht, e, Nat.reduceEqDiff, Nat.reduceAdd, Nat.reduceMul, Nat.reduceSub, Nat.reduceLT, Nat.reduceLeDiff, Nat.reduceDiv, Nat.reduceMod, Nat.reduceBEq, and_true, true_and, and_false, false_and, and_self, ite_true, ite_false, if_true, if_false, reduceIte, eq_self, not_true, not_false_eq_true, Bool.true_and, Bool.and_true, Bool.false_and, Bool.and_false, Bool.or_true, Bool.true_or, Bool.or_false, Bool.false_or, Bool.not_true, Bool.not_false, reduceCtorEq, upd_e, Nat.add_eq_zero_iff, Nat.add_right_cancel_iff, Nat.add_left_cancel_iff, decide_true, decide_false, Bool.false_eq_true]
