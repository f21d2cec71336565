/-! the whole state, as a value -/
abbrev IV : Type := Nat × Nat × Nat × Nat × Nat × (Nat → Nat) × (Nat → Nat) × (Nat → Nat) × (Nat → Nat) × (Nat → Nat)
def iH (I : IV) : Nat := I.1
def iR (I : IV) : Nat := I.2.1
def iB (I : IV) : Nat := I.2.2.1
def iT (I : IV) : Nat := I.2.2.2.1
def iK (I : IV) : Nat := I.2.2.2.2.1
def iC (I : IV) : Nat → Nat := I.2.2.2.2.2.1
def iX (I : IV) : Nat → Nat := I.2.2.2.2.2.2.1
def iU (I : IV) : Nat → Nat := I.2.2.2.2.2.2.2.1
def iM (I : IV) : Nat → Nat := I.2.2.2.2.2.2.2.2.1
def iN (I : IV) : Nat → Nat := I.2.2.2.2.2.2.2.2.2
def IOK (I : IV) : Prop := (1 ≤ iH I ∧ iH I ≤ 40) ∧ (1 ≤ iR I ∧ iR I ≤ 3) ∧ (1 ≤ iB I ∧ iB I ≤ 9) ∧ iT I ≤ 6 ∧ iK I ≤ 4 ∧ (∀ t, t < iT I → iC I t ≤ 40 ∧ iX I t ≤ 10) ∧ (∀ k, k < iK I → iU I k ≤ 1023 ∧ iM I k ≤ 10 ∧ iN I k ≤ 10)
/-- travellers by the day they come, and by numbers on one day -/
def ordOK (I : IV) (od : Nat → Nat) : Prop := (∀ i, i < iT I → od i < iT I) ∧ ∀ i j, i < j → j < iT I → iC I (od i) < iC I (od j) ∨ (iC I (od i) = iC I (od j) ∧ od i < od j)
def IC (σ : Mem) (q : Nat) (I : IV) : Prop :=
  mI σ q 0 = nI (iH I) ∧ mI σ q 1 = nI (iR I) ∧ mI σ q 2 = nI (iB I) ∧ mI σ q 3 = nI (iT I) ∧ mI σ q 4 = nI (iK I) ∧ (∀ t, t < iT I → mA σ q 5 t = nI (iC I t)) ∧ (∀ t, t < iT I → mA σ q 6 t = nI (iX I t)) ∧
  (∀ k, k < iK I → mA σ q 8 k = nI (iU I k)) ∧ (∀ k, k < iK I → mA σ q 9 k = nI (iM I k)) ∧ (∀ k, k < iK I → mA σ q 10 k = nI (iN I k)) ∧ ∃ od : Nat → Nat, ordOK I od ∧ ∀ i, i < iT I → mA σ q 7 i = nI (od i)
def IMo (τ : Mem) (I : IV) : Prop :=
  mI τ 0 0 = nI (iH I) ∧ mI τ 0 1 = nI (iR I) ∧ mI τ 0 2 = nI (iB I) ∧ mI τ 0 3 = nI (iT I) ∧ mI τ 0 5 = nI (iK I) ∧ (∀ t, t < iT I → mA τ 0 4 (2 * t) = nI (iC I t)) ∧ (∀ t, t < iT I → mA τ 0 4 (2 * t + 1) = nI (iX I t)) ∧
  (∀ k, k < iK I → mA τ 0 6 (3 * k) = nI (iU I k)) ∧ (∀ k, k < iK I → mA τ 0 6 (3 * k + 1) = nI (iM I k)) ∧ (∀ k, k < iK I → mA τ 0 6 (3 * k + 2) = nI (iN I k))
abbrev XV : Type := Nat × (Nat → Nat)
def TC (σ : Mem) (X : XV) : Prop := mI σ 1 0 = nI X.1 ∧ ∀ i, i < X.1 → mA σ 1 1 i = nI (X.2 i)
def TM (τ : Mem) (X : XV) : Prop := mI τ 0 18 = nI X.1 ∧ ∀ i, i < X.1 → mA τ 0 17 i = nI (X.2 i)
def XOK (X : XV) : Prop := X.1 ≤ 200 ∧ ∀ i, i < X.1 → X.2 i < 256
abbrev MV : Type := Nat → Option NV
def IMC (σ : Mem) (M : MV) : Prop := mI σ 0 6 = nI (b2n (M 0).isSome + 2 * b2n (M 1).isSome) ∧ ∀ j, j < 2 → ∀ N, M j = some N → NC σ (7 + j) N
def IMM (τ : Mem) (M : MV) : Prop := (∀ j, j < 2 → mA τ 0 11 j = if (M j).isSome = true then 1 else 0) ∧ ∀ j, j < 2 → ∀ N, M j = some N → NM (fun k => mA τ 0 10 (26 * j + k)) N
abbrev HV : Type := Nat × (Nat → NV)
def HC (σ : Mem) (Y : HV) : Prop := ∃ x, x < 10 ∧ mI σ 5 0 = nI Y.1 ∧ mI σ 5 1 = nI x ∧ ∀ i, i < Y.1 → NC σ (9 + (x + 10 - Y.1 + i) % 10) (Y.2 i)
def HM (τ : Mem) (Y : HV) : Prop := mI τ 0 9 = nI Y.1 ∧ ∀ i, i < Y.1 → NM (fun k => mA τ 0 8 (26 * i + k)) (Y.2 i)
abbrev BV : Type := Nat × Nat × (Nat → Nat → Nat) × (Nat → Nat)
def BC (σ : Mem) (B : BV) : Prop := mI σ 0 10 = nI B.1 ∧ (∀ b, b < B.1 → mA σ 0 8 b = nI (enc (B.2.2.1 b) B.2.1)) ∧ ∀ b, b < B.1 → mA σ 0 9 b = nI (B.2.2.2 b)
def BM (τ : Mem) (B : BV) : Prop := mI τ 0 12 = nI B.1 ∧ (0 < B.1 → mI τ 0 13 = nI B.2.1) ∧ (∀ b, b < B.1 → mA τ 0 14 b = nI (B.2.2.2 b)) ∧ ∀ b, b < B.1 → ∀ i, i < B.2.1 → mA τ 0 15 (5 * b + i) = nI (B.2.2.1 b i)
def BOK (B : BV) (K : Nat) : Prop := B.1 ≤ 4 ∧ (0 < B.1 → 1 ≤ B.2.1 ∧ B.2.1 ≤ 5) ∧ (∀ b, b < B.1 → B.2.2.2 b < K) ∧ ∀ b, b < B.1 → ∀ i, i < B.2.1 → B.2.2.1 b i ≤ 10
abbrev AS : Type := IV × XV × NV × MV × HV × BV × Int64
def aI (A : AS) : IV := A.1
def aTx (A : AS) : XV := A.2.1
def aN (A : AS) : NV := A.2.2.1
def aM (A : AS) : MV := A.2.2.2.1
def aH (A : AS) : HV := A.2.2.2.2.1
def aB (A : AS) : BV := A.2.2.2.2.2.1
def aT (A : AS) : Int64 := A.2.2.2.2.2.2
def wX (A : AS) (X : XV) : AS := (aI A, X, aN A, aM A, aH A, aB A, aT A)
def wN (A : AS) (N : NV) : AS := (aI A, aTx A, N, aM A, aH A, aB A, aT A)
def wM (A : AS) (M : MV) : AS := (aI A, aTx A, aN A, M, aH A, aB A, aT A)
def wH (A : AS) (Y : HV) : AS := (aI A, aTx A, aN A, aM A, Y, aB A, aT A)
def wB (A : AS) (B : BV) : AS := (aI A, aTx A, aN A, aM A, aH A, B, aT A)
def wT (A : AS) (t : Int64) : AS := (aI A, aTx A, aN A, aM A, aH A, aB A, t)
def AOK (A : AS) : Prop := IOK (aI A) ∧ XOK (aTx A) ∧ NOK (aN A) (iT (aI A)) (iR (aI A)) ∧ (∀ j, j < 2 → ∀ N, aM A j = some N → NOK N (iT (aI A)) (iR (aI A))) ∧ (aH A).1 ≤ 10 ∧ (∀ i, i < (aH A).1 → NOK ((aH A).2 i) (iT (aI A)) (iR (aI A))) ∧ BOK (aB A) (iK (aI A))
def SC (σ : Mem) (q q2 : Nat) : Prop := mP σ 0 0 = 1 ∧ mP σ 0 3 = 4 ∧ mP σ 0 4 = 5 ∧ mP σ 0 7 = 6 ∧ mP σ 0 1 = q ∧ mP σ 0 2 = q2 ∧ ((q = 2 ∧ q2 = 3) ∨ (q = 3 ∧ q2 = 2)) ∧ (∀ i, i < 2 → mE σ 0 5 i = 7 + i) ∧ ∀ i, i < 10 → mE σ 5 2 i = 9 + i
def CSq (σ : Mem) (q q2 : Nat) (A : AS) : Prop := SC σ q q2 ∧ IC σ q (aI A) ∧ TC σ (aTx A) ∧ NC σ 4 (aN A) ∧ IMC σ (aM A) ∧ HC σ (aH A) ∧ BC σ (aB A) ∧ mL σ 0 13 = aT A
def MS (τ : Mem) (A : AS) : Prop := IMo τ (aI A) ∧ TM τ (aTx A) ∧ NM (mA τ 0 7) (aN A) ∧ IMM τ (aM A) ∧ HM τ (aH A) ∧ BM τ (aB A) ∧ mL τ 0 16 = aT A
def Rel (σ τ : Mem) : Prop := ∃ A q q2, AOK A ∧ CSq σ q q2 A ∧ MS τ A
/-! what a change leaves as it is -/
theorem SC.keep {F : Nat → Nat → Prop} {σ σ' : Mem} {q q2 : Nat} (h : SC σ q q2) (hs : sameX F σ σ') (hP : ∀ k, F 0 k → mP σ' 0 k = mP σ 0 k) (hE : ¬ F 0 5 ∧ ¬ F 5 2) : SC σ' q q2 := by
  have hp : ∀ k, mP σ' 0 k = mP σ 0 k := fun k => by
    by_cases e : F 0 k
    · exact hP k e
    · exact (hs 0 k e).2.2.1
  obtain ⟨h1, h2, h3, h4, h5, h6, h7, h8, h9⟩ := h
  refine ⟨by rw [hp]; exact h1, by rw [hp]; exact h2, by rw [hp]; exact h3, by rw [hp]; exact h4, by rw [hp]; exact h5, by rw [hp]; exact h6, h7, fun i hi => ?_, fun i hi => ?_⟩
  · rw [(hs 0 5 hE.1).2.2.2.2.2]; exact h8 i hi
  · rw [(hs 5 2 hE.2).2.2.2.2.2]; exact h9 i hi
theorem IC.keep {F : Nat → Nat → Prop} {σ σ' : Mem} {q : Nat} {I : IV} (h : IC σ q I) (hs : sameX F σ σ') (hF : ∀ k, ¬ F q k) : IC σ' q I := by
  have hi : ∀ k, mI σ' q k = mI σ q k := fun k => (hs q k (hF k)).1
  have ha : ∀ k, mA σ' q k = mA σ q k := fun k => (hs q k (hF k)).2.2.2.1
  unfold IC
  simp only [hi, ha]
  exact h
theorem TC.keep {F : Nat → Nat → Prop} {σ σ' : Mem} {X : XV} (h : TC σ X) (hs : sameX F σ σ') (hF : ¬ F 1 0 ∧ ¬ F 1 1) : TC σ' X := by
  unfold TC
  rw [(hs 1 0 hF.1).1, (hs 1 1 hF.2).2.2.2.1]
  exact h
theorem IMC.keep {F : Nat → Nat → Prop} {σ σ' : Mem} {M : MV} (h : IMC σ M) (hs : sameX F σ σ') (h6 : ¬ F 0 6) (hF : ∀ j, j < 2 → ∀ k, ¬ F (7 + j) k) : IMC σ' M :=
  ⟨by rw [(hs 0 6 h6).1]; exact h.1, fun j hj N hN => (h.2 j hj N hN).keep hs (hF j hj)⟩
theorem HC.keep {F : Nat → Nat → Prop} {σ σ' : Mem} {Y : HV} (h : HC σ Y) (hs : sameX F σ σ') (h5 : ¬ F 5 0 ∧ ¬ F 5 1) (hF : ∀ j, j < 10 → ∀ k, ¬ F (9 + j) k) : HC σ' Y := by
  obtain ⟨x, h1, h2, h3, h4⟩ := h
  exact ⟨x, h1, by rw [(hs 5 0 h5.1).1]; exact h2, by rw [(hs 5 1 h5.2).1]; exact h3, fun i hi => (h4 i hi).keep hs (hF _ (Nat.mod_lt _ (by decide)))⟩
theorem BC.keep {F : Nat → Nat → Prop} {σ σ' : Mem} {B : BV} (h : BC σ B) (hs : sameX F σ σ') (hF : ¬ F 0 8 ∧ ¬ F 0 9 ∧ ¬ F 0 10) : BC σ' B := by
  unfold BC
  rw [(hs 0 10 hF.2.2).1, (hs 0 8 hF.1).2.2.2.1, (hs 0 9 hF.2.1).2.2.2.1]
  exact h
theorem IMo.keep {F : Nat → Nat → Prop} {τ τ' : Mem} {I : IV} (h : IMo τ I) (hs : sameX F τ τ') (hF : ∀ k, k < 7 → ¬ F 0 k) : IMo τ' I := by
  unfold IMo
  rw [(hs 0 0 (hF 0 (by decide))).1, (hs 0 1 (hF 1 (by decide))).1, (hs 0 2 (hF 2 (by decide))).1, (hs 0 3 (hF 3 (by decide))).1, (hs 0 5 (hF 5 (by decide))).1, (hs 0 4 (hF 4 (by decide))).2.2.2.1, (hs 0 6 (hF 6 (by decide))).2.2.2.1]
  exact h
theorem TM.keep {F : Nat → Nat → Prop} {τ τ' : Mem} {X : XV} (h : TM τ X) (hs : sameX F τ τ') (hF : ¬ F 0 17 ∧ ¬ F 0 18) : TM τ' X := by
  unfold TM
  rw [(hs 0 18 hF.2).1, (hs 0 17 hF.1).2.2.2.1]
  exact h
theorem IMM.keep {F : Nat → Nat → Prop} {τ τ' : Mem} {M : MV} (h : IMM τ M) (hs : sameX F τ τ') (hF : ¬ F 0 10 ∧ ¬ F 0 11) : IMM τ' M := by
  unfold IMM
  rw [(hs 0 10 hF.1).2.2.2.1, (hs 0 11 hF.2).2.2.2.1]
  exact h
theorem HM.keep {F : Nat → Nat → Prop} {τ τ' : Mem} {Y : HV} (h : HM τ Y) (hs : sameX F τ τ') (hF : ¬ F 0 8 ∧ ¬ F 0 9) : HM τ' Y := by
  unfold HM
  rw [(hs 0 9 hF.2).1, (hs 0 8 hF.1).2.2.2.1]
  exact h
theorem BM.keep {F : Nat → Nat → Prop} {τ τ' : Mem} {B : BV} (h : BM τ B) (hs : sameX F τ τ') (hF : ∀ k, 12 ≤ k → k ≤ 15 → ¬ F 0 k) : BM τ' B := by
  unfold BM
  rw [(hs 0 12 (hF 12 (by decide) (by decide))).1, (hs 0 13 (hF 13 (by decide) (by decide))).1, (hs 0 14 (hF 14 (by decide) (by decide))).2.2.2.1, (hs 0 15 (hF 15 (by decide) (by decide))).2.2.2.1]
  exact h
theorem NM.of {f g : Nat → Int32} {N : NV} (h : NM f N) (hg : ∀ k, k < 26 → g k = f k) (hn : vN N ≤ 5) : NM g N := by
  obtain ⟨h1, h2, h3, h4, h5, h6, h7⟩ := h
  refine ⟨by rw [hg 0 (by decide)]; exact h1, by rw [hg 1 (by decide)]; exact h2, fun t ht => by rw [hg _ (by omega)]; exact h3 t ht, fun t ht => by rw [hg _ (by omega)]; exact h4 t ht, fun t ht => by rw [hg _ (by omega)]; exact h5 t ht, by rw [hg 20 (by decide)]; exact h6, fun i hi => by rw [hg _ (by omega)]; exact h7 i hi⟩
theorem CSq.q {σ : Mem} {q q2 : Nat} {A : AS} (h : CSq σ q q2 A) : (q = 2 ∧ q2 = 3) ∨ (q = 3 ∧ q2 = 2) := h.1.2.2.2.2.2.2.1
/-- scratch alone is written -/
theorem CSq.scratch {σ σ' : Mem} {q q2 : Nat} {A : AS} (h : CSq σ q q2 A) (hs : sameX (fun o k => o = 6 ∨ (o = 0 ∧ (k = 11 ∨ k = 12))) σ σ') (hP : mP σ' 0 11 = mP σ 0 11 ∧ mP σ' 0 12 = mP σ 0 12) : CSq σ' q q2 A := by
  obtain ⟨h1, h2, h3, h4, h5, h6, h7, h8⟩ := id h
  have hq := h.q
  exact ⟨h1.keep hs (fun k hk => hk.elim (fun e => absurd e (by decide)) (fun e => e.2.elim (fun e => by rw [e]; exact hP.1) (fun e => by rw [e]; exact hP.2))) ⟨by omega, by omega⟩, h2.keep hs (fun k => by omega), h3.keep hs ⟨by omega, by omega⟩, h4.keep hs (fun k => by omega), h5.keep hs (by omega) (fun j hj k => by omega), h6.keep hs ⟨by omega, by omega⟩ (fun j hj k => by omega), h7.keep hs ⟨by omega, by omega, by omega⟩, by rw [(hs 0 13 (by omega)).2.1]; exact h8⟩
theorem MS.scratch {τ τ' : Mem} {A : AS} (h : MS τ A) (hs : sameX (fun _ k => 19 ≤ k) τ τ') : MS τ' A := by
  obtain ⟨h1, h2, h3, h4, h5, h6, h7⟩ := h
  exact ⟨h1.keep hs (fun k hk => by omega), h2.keep hs ⟨by omega, by omega⟩, by rw [(hs 0 7 (by omega)).2.2.2.1]; exact h3, h4.keep hs ⟨by omega, by omega⟩, h5.keep hs ⟨by omega, by omega⟩, h6.keep hs (fun k _ _ => by omega), by rw [(hs 0 16 (by omega)).2.1]; exact h7⟩
/-- the present alone is written -/
theorem CSq.now {σ σ' : Mem} {q q2 : Nat} {A : AS} {N : NV} (h : CSq σ q q2 A) (hs : sameX (fun o _ => o = 4) σ σ') (hN : NC σ' 4 N) : CSq σ' q q2 (wN A N) := by
  obtain ⟨h1, h2, h3, h4, h5, h6, h7, h8⟩ := id h
  have hq := h.q
  exact ⟨h1.keep hs (fun k hk => by omega) ⟨by omega, by omega⟩, h2.keep hs (fun k => by omega), h3.keep hs ⟨by omega, by omega⟩, hN, h5.keep hs (by omega) (fun j hj k => by omega), h6.keep hs ⟨by omega, by omega⟩ (fun j hj k => by omega), h7.keep hs ⟨by omega, by omega, by omega⟩, by rw [(hs 0 13 (by omega)).2.1]; exact h8⟩
theorem MS.now {τ τ' : Mem} {A : AS} {N : NV} (h : MS τ A) (hs : sameX (fun _ k => k = 7) τ τ') (hN : NM (mA τ' 0 7) N) : MS τ' (wN A N) := by
  obtain ⟨h1, h2, h3, h4, h5, h6, h7⟩ := h
  exact ⟨h1.keep hs (fun k hk => by omega), h2.keep hs ⟨by omega, by omega⟩, hN, h4.keep hs ⟨by omega, by omega⟩, h5.keep hs ⟨by omega, by omega⟩, h6.keep hs (fun k _ _ => by omega), by rw [(hs 0 16 (by omega)).2.1]; exact h7⟩

theorem N0_ok (T R : Nat) : NOK N0 T R := ⟨Nat.zero_le _, fun t _ => ⟨Nat.le_refl 3, fun h => absurd h (Nat.lt_irrefl 3)⟩, fun t _ => ⟨rfl, rfl⟩, fun r _ => Nat.le_refl 0, Nat.zero_le _, fun i h => absurd h (Nat.not_lt_zero i)⟩
/-- the start -/
theorem Rel_0 : Rel σC0 σM0 := by
  refine ⟨((10, 2, 1, 0, 0, fun _ => 0, fun _ => 0, fun _ => 0, fun _ => 0, fun _ => 0), (0, fun _ => 0), N0, fun _ => none, (0, fun _ => N0), (0, 0, fun _ _ => 0, fun _ => 0), 0), 2, 3, ?_, ?_, ?_⟩
  · refine ⟨⟨⟨by decide, by decide⟩, ⟨by decide, by decide⟩, ⟨by decide, by decide⟩, by decide, by decide, fun t h => absurd h (Nat.not_lt_zero t), fun t h => absurd h (Nat.not_lt_zero t)⟩, ⟨by decide, fun i h => absurd h (Nat.not_lt_zero i)⟩, N0_ok _ _, fun j _ N h => (by cases h), by decide, fun i h => absurd h (Nat.not_lt_zero i), ⟨by decide, fun h => absurd h (by decide), fun b h => absurd h (Nat.not_lt_zero b), fun b h => absurd h (Nat.not_lt_zero b)⟩⟩
  · refine ⟨⟨rfl, rfl, rfl, rfl, rfl, rfl, Or.inl ⟨rfl, rfl⟩, fun i hi => ?_, fun i hi => ?_⟩, ⟨rfl, rfl, rfl, rfl, rfl, fun t h => absurd h (Nat.not_lt_zero t), fun t h => absurd h (Nat.not_lt_zero t), fun t h => absurd h (Nat.not_lt_zero t), fun t h => absurd h (Nat.not_lt_zero t), fun t h => absurd h (Nat.not_lt_zero t), fun _ => 0, ⟨fun t h => absurd h (Nat.not_lt_zero t), fun i j _ h => absurd h (Nat.not_lt_zero j)⟩, fun t h => absurd h (Nat.not_lt_zero t)⟩, ⟨rfl, fun i h => absurd h (Nat.not_lt_zero i)⟩, ⟨rfl, rfl, rfl, rfl, lt3 rfl rfl rfl, lt3 rfl rfl rfl⟩, ⟨rfl, fun j _ N h => (by cases h)⟩, ⟨0, by decide, rfl, rfl, fun i h => absurd h (Nat.not_lt_zero i)⟩, ⟨rfl, fun b h => absurd h (Nat.not_lt_zero b), fun b h => absurd h (Nat.not_lt_zero b)⟩, rfl⟩
    · match i, hi with
      | 0, _ => rfl
      | 1, _ => rfl
      | n + 2, h => exact absurd h (by omega)
    · have h2 : ∀ i : Fin 10, mE σC0 5 2 i.val = 9 + i.val := by decide
      exact h2 ⟨i, hi⟩
  · refine ⟨⟨rfl, rfl, rfl, rfl, rfl, fun t h => absurd h (Nat.not_lt_zero t), fun t h => absurd h (Nat.not_lt_zero t), fun t h => absurd h (Nat.not_lt_zero t), fun t h => absurd h (Nat.not_lt_zero t), fun t h => absurd h (Nat.not_lt_zero t)⟩, ⟨rfl, fun i h => absurd h (Nat.not_lt_zero i)⟩, ⟨rfl, rfl, ?_, ?_, ?_, rfl, fun i h => absurd h (Nat.not_lt_zero i)⟩, ⟨fun j hj => ?_, fun j _ N h => (by cases h)⟩, ⟨rfl, fun i h => absurd h (Nat.not_lt_zero i)⟩, ⟨rfl, fun h => absurd h (by decide), fun b h => absurd h (Nat.not_lt_zero b), fun b h => absurd h (Nat.not_lt_zero b)⟩, rfl⟩
    · have h2 : ∀ t : Fin 6, mA σM0 0 7 (2 + t.val) = -9 := by decide
      intro t ht; exact h2 ⟨t, ht⟩
    · have h2 : ∀ t : Fin 6, mA σM0 0 7 (8 + t.val) = 0 := by decide
      intro t ht; exact h2 ⟨t, ht⟩
    · have h2 : ∀ t : Fin 6, mA σM0 0 7 (14 + t.val) = 0 := by decide
      intro t ht; exact h2 ⟨t, ht⟩
    · match j, hj with
      | 0, _ => rfl
      | 1, _ => rfl
      | n + 2, h => exact absurd h (by omega)
