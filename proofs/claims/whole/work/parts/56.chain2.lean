/-! the model's rows of clerks -/
theorem M_power_l {K N : Nat} (hN : N < 1000) : ∀ (d i n a : Nat), i + d = N → d < n → fX6_power_5 0 n (nI K) (nI N) (nI a) (nI i) = some (nI (a * K ^ d)) := by
  intro d
  induction d with
  | zero =>
    intro i n a hi hn
    obtain ⟨n, rfl⟩ : ∃ m, n = m + 1 := ⟨n - 1, by omega⟩
    rw [fX6_power_5.eq_2, iteLE (by omega) (by omega), if_pos (by omega), Nat.pow_zero, Nat.mul_one]
  | succ d ih =>
    intro i n a hi hn
    obtain ⟨n, rfl⟩ : ∃ m, n = m + 1 := ⟨n - 1, by omega⟩
    rw [fX6_power_5.eq_2, iteLE (by omega) (by omega), if_neg (by omega), pk_mul, nI_1, ih (i + 1) n (a * K) (by omega) (by omega), Nat.pow_succ, Nat.mul_assoc, Nat.mul_comm K]
theorem M_power {K N : Nat} (hN : N < 999) : fX6_power 0 (nI K) (nI N) = some (nI (K ^ N)) := by
  have e := M_power_l (K := K) (N := N) (by omega) N 0 FU 1 (by omega) (by show _ < 1000; omega)
  rw [Nat.one_mul] at e
  exact e
def setp (s : Nat → Nat) : Nat → (Nat → Bool) → Nat → Bool
  | 0, p => p
  | j + 1, p => setp s j (fun c => p c || decide (c = s j))
theorem setp_c {s t : Nat → Nat} : ∀ {j : Nat} {p : Nat → Bool}, (∀ i, i < j → s i = t i) → setp s j p = setp t j p
  | 0, _, _ => rfl
  | j + 1, p, h => by
    show setp s j (fun c => p c || decide (c = s j)) = setp t j (fun c => p c || decide (c = t j))
    rw [h j (by omega), setp_c (fun i hi => h i (by omega))]
def sF (a b c d : Nat) : Nat → Nat
  | 0 => a
  | 1 => b
  | 2 => c
  | _ => d
theorem dis_k : ∀ (N : Fin 5) (a b c d : Fin 4), decide (pc10 (bs10 (setp (sF a.val b.val c.val d.val) N.val (fun _ => false))) = N.val) = dis (sF a.val b.val c.val d.val) N.val := by decide +kernel
theorem dis_pc {s : Nat → Nat} {N : Nat} (hN : N ≤ 4) (hs : ∀ i, i < N → s i < 4) : decide (pc10 (bs10 (setp s N (fun _ => false))) = N) = dis s N := by
  have hb : ∀ i, (if i < N then s i else 0) < 4 := fun i => by
    split
    · exact hs i (by assumption)
    · decide
  have ha : ∀ i, i < N → s i = sF (if 0 < N then s 0 else 0) (if 1 < N then s 1 else 0) (if 2 < N then s 2 else 0) (if 3 < N then s 3 else 0) i := fun i hi => by
    have e : i = 0 ∨ i = 1 ∨ i = 2 ∨ i = 3 := by omega
    rcases e with rfl | rfl | rfl | rfl
    · show _ = if 0 < N then s 0 else 0
      rw [if_pos hi]
    · show _ = if 1 < N then s 1 else 0
      rw [if_pos hi]
    · show _ = if 2 < N then s 2 else 0
      rw [if_pos hi]
    · show _ = if 3 < N then s 3 else 0
      rw [if_pos hi]
  rw [setp_c ha, dis_c ha]
  exact dis_k ⟨N, by omega⟩ ⟨_, hb 0⟩ ⟨_, hb 1⟩ ⟨_, hb 2⟩ ⟨_, hb 3⟩
theorem num_b {K : Nat} (hK : K ≤ 4) {s : Nat → Nat} {n : Nat} (hn : n ≤ 4) (hs : ∀ i, i < n → s i < K) : num K s n < 256 := by
  have h1 := num_lt hs
  have h2 : K ^ n ≤ 4 ^ 4 := Nat.le_trans (Nat.pow_le_pow_left hK n) (Nat.pow_le_pow_right (by decide) hn)
  have h3 : (4 : Nat) ^ 4 = 256 := by decide
  omega
theorem M_m10 {I : IV} (ok : IOK I) {N : Nat} (hN : N ≤ 4) {s : Nat → Nat} : ∀ (j n : Nat) (τ : Mem) (p : Nat → Bool), j ≤ N → j < n → (∀ i, i < j → s i < iK I) → IMo τ I → ∃ τ', fX6_makes_10 0 n τ (nI N) (nI (num (iK I) s j)) (nI (bs10 p)) (nI j + -1) = bd (fX6_begins τ' 0) (fun σ17 => fX6_makes_62 0 FU σ17 (nI N) (nI (bs10 (setp s j p))) 0) ∧ (∀ i, mA τ' 0 38 i = if i < j then nI (s i) else mA τ 0 38 i) ∧ sameX (fun _ k => k = 38) τ τ' := by
  have hK := ok.2.2.2.2.1
  intro j
  induction j with
  | zero =>
    intro n τ p hj hn hs hI
    obtain ⟨n, rfl⟩ : ∃ m, n = m + 1 := ⟨n - 1, by omega⟩
    refine ⟨τ, ?_, fun i => by rw [if_neg (Nat.not_lt_zero i)], sameX.rf⟩
    rw [fX6_makes_10.eq_2, if_pos (show nI 0 + -1 < 0 by decide)]
    rfl
  | succ j ih =>
    intro n τ p hj hn hs hI
    obtain ⟨n, rfl⟩ : ∃ m, n = m + 1 := ⟨n - 1, by omega⟩
    have hsj := hs j (by omega)
    have hb := num_b hK (show j + 1 ≤ 4 by omega) hs
    have hk0 : ¬ nI (iK I) = 0 := by rw [l0, eqN (by omega) (by omega)]; omega
    obtain ⟨τ', e1, a1, s1⟩ := ih n (sA τ 0 38 j (nI (s j))) (fun c => p c || decide (c = s j)) (by omega) (by omega) (fun i hi => hs i (by omega)) (hI.keep (F := fun _ k => k = 38) (by repeat (first | exact sameX.rf | refine sameX.sI ?_ (by first | rfl | exact Or.inl rfl | exact Or.inr rfl | trivial | decide | omega | simp) _ | refine sameX.sA ?_ (by first | rfl | exact Or.inl rfl | exact Or.inr rfl | trivial | decide | omega | simp) _ _ | refine sameX.sL ?_ (by first | rfl | exact Or.inl rfl | exact Or.inr rfl | trivial | decide | omega | simp) _ | refine sameX.sP ?_ (by first | rfl | exact Or.inl rfl | exact Or.inr rfl | trivial | decide | omega | simp) _ | refine sameX.sB ?_ (by first | rfl | exact Or.inl rfl | exact Or.inr rfl | trivial | decide | omega | simp) _ _)) (fun k hk => by omega))
    have k5 : mI (sA τ 0 38 j (nI (s j))) 0 5 = nI (iK I) := hI.2.2.2.2.1
    have k38 : mA (sA τ 0 38 j (nI (s j))) 0 38 j = nI (s j) := by simp only [mI_sI, mI_sL, mI_sP, mI_sA, mI_sB, mL_sI, mL_sL, mL_sP, mL_sA, mL_sB, mP_sI, mP_sL, mP_sP, mP_sA, mP_sB, mA_sI, mA_sL, mA_sP, mA_sAg, mA_sB, mB_sI, mB_sL, mB_sP, mB_sA, mB_sBg, mE_sI, mE_sL, mE_sP, mE_sA, mE_sB, Nat.reduceEqDiff, Nat.reduceAdd, Nat.reduceMul, Nat.reduceSub, Nat.reduceLT, Nat.reduceLeDiff, Nat.reduceDiv, Nat.reduceMod, Nat.reduceBEq, and_true, true_and, and_false, false_and, and_self, ite_true, ite_false, if_true, if_false, reduceIte, eq_self, not_true, not_false_eq_true, Bool.true_and, Bool.and_true, Bool.false_and, Bool.and_false, Bool.or_true, Bool.true_or, Bool.or_false, Bool.false_or, Bool.not_true, Bool.not_false, reduceCtorEq, upd_e, Nat.add_eq_zero_iff, Nat.add_right_cancel_iff, Nat.add_left_cancel_iff]
    refine ⟨τ', ?_, fun i => ?_, sameX.tr (by repeat (first | exact sameX.rf | refine sameX.sI ?_ (by first | rfl | exact Or.inl rfl | exact Or.inr rfl | trivial | decide | omega | simp) _ | refine sameX.sA ?_ (by first | rfl | exact Or.inl rfl | exact Or.inr rfl | trivial | decide | omega | simp) _ _ | refine sameX.sL ?_ (by first | rfl | exact Or.inl rfl | exact Or.inr rfl | trivial | decide | omega | simp) _ | refine sameX.sP ?_ (by first | rfl | exact Or.inl rfl | exact Or.inr rfl | trivial | decide | omega | simp) _ | refine sameX.sB ?_ (by first | rfl | exact Or.inl rfl | exact Or.inr rfl | trivial | decide | omega | simp) _ _)) s1⟩
    · rw [pk_m1, fX6_makes_10.eq_2, if_neg (by rw [l0, ltN (by omega) (by omega)]; omega), hI.2.2.2.2.1, gdT hk0, gd_in (by omega) (by decide), clampN (by omega), remN (by omega) (by omega) (by omega), num_mod hsj, stp_s, gd_in (by omega) (by decide), k5, gdT hk0, k38, pk_div (by omega) (by omega) (by omega), num_div hsj]
      refine Eq.trans ?_ e1
      exact congrArg (fun z => fX6_makes_10 0 n (sA τ 0 38 j (nI (s j))) (nI N) (nI (num (iK I) s j)) z (nI j + -1)) (bs10_or p (show s j < 10 by omega))
    · rw [a1 i]
      simp only [mI_sI, mI_sL, mI_sP, mI_sA, mI_sB, mL_sI, mL_sL, mL_sP, mL_sA, mL_sB, mP_sI, mP_sL, mP_sP, mP_sA, mP_sB, mA_sI, mA_sL, mA_sP, mA_sAg, mA_sB, mB_sI, mB_sL, mB_sP, mB_sA, mB_sBg, mE_sI, mE_sL, mE_sP, mE_sA, mE_sB, Nat.reduceEqDiff, Nat.reduceAdd, Nat.reduceMul, Nat.reduceSub, Nat.reduceLT, Nat.reduceLeDiff, Nat.reduceDiv, Nat.reduceMod, Nat.reduceBEq, and_true, true_and, and_false, false_and, and_self, ite_true, ite_false, if_true, if_false, reduceIte, eq_self, not_true, not_false_eq_true, Bool.true_and, Bool.and_true, Bool.false_and, Bool.and_false, Bool.or_true, Bool.true_or, Bool.or_false, Bool.false_or, Bool.not_true, Bool.not_false, reduceCtorEq, upd_e, Nat.add_eq_zero_iff, Nat.add_right_cancel_iff, Nat.add_left_cancel_iff]
      by_cases e1 : i < j
      · rw [if_pos e1, if_pos (by omega)]
      · rw [if_neg e1]
        by_cases e2 : i = j
        · rw [if_pos e2, if_pos (by omega), e2]
        · rw [if_neg e2, if_neg (by omega)]
theorem M_m62 {A : AS} (ok : AOK A) {k : Nat} (hk : k ≤ 5) {w : Nat → Nat} (hw : ∀ i, i < k → w i ≤ 10) {N : Nat} (hN : N ≤ 4) {s : Nat → Nat} (hs : ∀ i, i < N → s i < iK (aI A)) {u : Nat} (hu : u ≤ 1023) : ∀ (d i n : Nat) (τ : Mem), i + d = N → d < n → MS τ A → mI τ 0 37 = nI k → (∀ i, i < N → mA τ 0 38 i = nI (s i)) → (∀ j, j < k → mA τ 0 36 j = nI (sm (aI A) w s i j)) → ∃ τ', fX6_makes_62 0 n τ (nI N) (nI u) (nI i) = some (nI (b2n (decide (pc10 u = N) && sameL A (sm (aI A) w s N) k)), τ') ∧ sameX (fun _ k => k = 36) τ τ' := by
  have hp := pc10_le u
  intro d
  induction d with
  | zero =>
    intro i n τ hi hn hM h37 h38 h36
    obtain ⟨n, rfl⟩ : ∃ m, n = m + 1 := ⟨n - 1, by omega⟩
    have ei : i = N := by omega
    subst ei
    have el := M_isL hk (sm_le ok.1 hw hs) ok hM h37 h36
    refine ⟨τ, ?_, sameX.rf⟩
    rw [fX6_makes_62.eq_2, iteLE (by omega) (by omega), if_pos (Nat.le_refl _), pcM hu, bd_s, iteE (by omega) (by omega), el, bd_s]
    by_cases e : pc10 u = i
    · rw [if_pos e, decide_eq_true e, Bool.true_and]
      cases sameL A (sm (aI A) w s i) k
      · rfl
      · rfl
    · rw [if_neg e, decide_eq_false e, Bool.false_and]
      rfl
  | succ d ih =>
    intro i n τ hi hn hM h37 h38 h36
    obtain ⟨n, rfl⟩ : ∃ m, n = m + 1 := ⟨n - 1, by omega⟩
    obtain ⟨τ1, e1, a1, s1⟩ := M_son ok.1 (hs i (by omega)) hk (sm_le ok.1 hw (fun j hj => hs j (by omega))) hM.1 h37 h36
    obtain ⟨τ2, e2, s2⟩ := ih (i + 1) n τ1 (by omega) (by omega) (hM.scratch (s1.mono (fun o k h => by omega))) (by rw [(s1 0 37 (by omega)).1]; exact h37) (fun j hj => by rw [(s1 0 38 (by omega)).2.2.2.1]; exact h38 j hj) a1
    refine ⟨τ2, ?_, s1.tr s2⟩
    rw [fX6_makes_62.eq_2, iteLE (by omega) (by omega), if_neg (by omega), gd_in (by omega) (by decide), clampN (by omega), h38 i (by omega), e1, bd_s, nI_1]
    exact e2
/-- the state of the model's search -/
def MI (A : AS) (k : Nat) (w : Nat → Nat) (τ : Mem) : Prop := MS τ A ∧ mI τ 0 37 = nI k ∧ ∀ i, i < k → mA τ 0 35 i = nI (w i)
theorem MI.keep {A : AS} {k : Nat} {w : Nat → Nat} {τ τ' : Mem} (h : MI A k w τ) (hs : sameX (fun _ k => k = 36 ∨ k = 38) τ τ') : MI A k w τ' :=
  ⟨h.1.scratch (hs.mono (fun o k h => by omega)), by rw [(hs 0 37 (by omega)).1]; exact h.2.1, fun i hi => by rw [(hs 0 35 (by omega)).2.2.2.1]; exact h.2.2 i hi⟩
theorem M_makes {A : AS} (ok : AOK A) {k : Nat} (hk : k ≤ 5) {w : Nat → Nat} (hw : ∀ i, i < k → w i ≤ 10) {N : Nat} (hN : N ≤ iK (aI A)) {s : Nat → Nat} (hs : ∀ i, i < N → s i < iK (aI A)) {τ : Mem} (h : MI A k w τ) : ∃ τ', fX6_makes τ 0 (nI N) (nI (num (iK (aI A)) s N)) = some (nI (b2n (dis s N && sameL A (sm (aI A) w s N) k)), τ') ∧ MI A k w τ' ∧ ∀ i, i < N → mA τ' 0 38 i = nI (s i) := by
  have hK := ok.1.2.2.2.2.1
  obtain ⟨τ1, e1, a1, s1⟩ := M_m10 ok.1 (show N ≤ 4 by omega) N FU τ (fun _ => false) (Nat.le_refl N) (by show _ < 1000; omega) hs h.1.1
  have h1 := h.keep (s1.mono (fun o k h => Or.inr h))
  obtain ⟨τ2, e2, a2, s2⟩ := M_begins hk h1.2.2
  have h2 := h1.keep (s2.mono (fun o k h => Or.inl h))
  have r2 : ∀ i, i < N → mA τ2 0 38 i = nI (s i) := fun i hi => by rw [(s2 0 38 (by omega)).2.2.2.1, a1 i, if_pos hi]
  obtain ⟨τ3, e3, s3⟩ := M_m62 ok hk hw (show N ≤ 4 by omega) hs (bs10_lt (setp s N (fun _ => false))) N 0 FU τ2 (by omega) (by show _ < 1000; omega) h2.1 h2.2.1 r2 a2
  rw [dis_pc (show N ≤ 4 by omega) (fun i hi => by have := hs i hi; omega)] at e3
  refine ⟨τ3, ?_, h2.keep (s3.mono (fun o k h => Or.inl h)), fun i hi => by rw [(s3 0 38 (by omega)).2.2.2.1]; exact r2 i hi⟩
  unfold fX6_makes
  have z : bs10 (fun _ => false) = 0 := bs10_0
  rw [z] at e1
  rw [show nI N - 1 = nI N + -1 from Int32.sub_eq_add_neg _ _]
  refine Eq.trans e1 ?_
  rw [e2, bd_s]
  exact e3
theorem M_c28no {A : AS} (ok : AOK A) {k : Nat} (hk : k ≤ 5) {w : Nat → Nat} (hw : ∀ i, i < k → w i ≤ 10) {N : Nat} (hN : N ≤ iK (aI A)) (K17 : Mem → Int32 → Int32 → Option (Int32 × Mem)) (x2 : Int32) (hno : ∀ s, ¬ good A w k N s) : ∀ (d X n : Nat) (τ : Mem), X + d = iK (aI A) ^ N → d < n → MI A k w τ → ∃ τ', fX6_chain_28 K17 0 n τ x2 (nI N) (nI X) = K17 τ' x2 (nI (N + 1)) ∧ MI A k w τ' := by
  have hK := ok.1.2.2.2.2.1
  have hp : iK (aI A) ^ N ≤ 256 := by
    have h2 : iK (aI A) ^ N ≤ 4 ^ 4 := Nat.le_trans (Nat.pow_le_pow_left hK N) (Nat.pow_le_pow_right (by decide) (by omega))
    have h3 : (4 : Nat) ^ 4 = 256 := by decide
    omega
  intro d
  induction d with
  | zero =>
    intro X n τ hX hn h
    obtain ⟨n, rfl⟩ : ∃ m, n = m + 1 := ⟨n - 1, by omega⟩
    refine ⟨τ, ?_, h⟩
    rw [fX6_chain_28.eq_2, h.1.1.2.2.2.2.1, M_power (by omega), bd_s, iteLE (by omega) (by omega), if_pos (by omega), nI_1]
  | succ d ih =>
    intro X n τ hX hn h
    obtain ⟨n, rfl⟩ : ∃ m, n = m + 1 := ⟨n - 1, by omega⟩
    obtain ⟨s, hs, es⟩ := num_ex N X (show X < iK (aI A) ^ N by omega)
    obtain ⟨τ1, e1, h1, r1⟩ := M_makes ok hk hw hN hs h
    rw [es] at e1
    have eb : (dis s N && sameL A (sm (aI A) w s N) k) = false := by
      cases e : (dis s N && sameL A (sm (aI A) w s N) k)
      · rfl
      · have := (Bool.and_eq_true _ _).mp e
        exact absurd ⟨hs, this.1, this.2⟩ (hno s)
    rw [eb] at e1
    obtain ⟨τ2, e2, h2⟩ := ih (X + 1) n τ1 (by omega) (by omega) h1
    refine ⟨τ2, ?_, h2⟩
    rw [fX6_chain_28.eq_2, h.1.1.2.2.2.2.1, M_power (by omega), bd_s, iteLE (by omega) (by omega), if_neg (by omega), e1, bd2_s, if_pos (show nI (b2n false) = 0 from rfl), nI_1]
    exact e2
/-- what is answered once a row is found -/
def ansC (x2 : Int32) (N : Nat) (s : Nat → Nat) : Int32 := if 0 ≤ x2 then if nI N ≤ x2 then -5 else nI (s x2.toNatClampNeg) else nI N
theorem M_c28yes {A : AS} (ok : AOK A) {k : Nat} (hk : k ≤ 5) {w : Nat → Nat} (hw : ∀ i, i < k → w i ≤ 10) {N : Nat} (hN : N ≤ iK (aI A)) (K17 : Mem → Int32 → Int32 → Option (Int32 × Mem)) (x2 : Int32) {s' : Nat → Nat} (hg : good A w k N s') (hmin : ∀ s, good A w k N s → num (iK (aI A)) s' N ≤ num (iK (aI A)) s N) : ∀ (d X n : Nat) (τ : Mem), X + d = num (iK (aI A)) s' N → d < n → MI A k w τ → ∃ τ', fX6_chain_28 K17 0 n τ x2 (nI N) (nI X) = some (ansC x2 N s', τ') ∧ MI A k w τ' := by
  have hK := ok.1.2.2.2.2.1
  have hp : iK (aI A) ^ N ≤ 256 := by
    have h2 : iK (aI A) ^ N ≤ 4 ^ 4 := Nat.le_trans (Nat.pow_le_pow_left hK N) (Nat.pow_le_pow_right (by decide) (by omega))
    have h3 : (4 : Nat) ^ 4 = 256 := by decide
    omega
  have hlt := num_lt hg.1
  intro d
  induction d with
  | zero =>
    intro X n τ hX hn h
    obtain ⟨n, rfl⟩ : ∃ m, n = m + 1 := ⟨n - 1, by omega⟩
    obtain ⟨τ1, e1, h1, r1⟩ := M_makes ok hk hw hN hg.1 h
    rw [hg.2.1, hg.2.2] at e1
    refine ⟨τ1, ?_, h1⟩
    rw [fX6_chain_28.eq_2, h.1.1.2.2.2.2.1, M_power (by omega), bd_s, iteLE (by omega) (by omega), if_neg (by omega), show X = num (iK (aI A)) s' N by omega, e1, bd2_s, if_neg (show ¬ nI (b2n (true && true)) = 0 by decide)]
    unfold ansC
    by_cases e0 : 0 ≤ x2
    · rw [if_pos e0, if_pos e0]
      by_cases e2 : nI N ≤ x2
      · rw [if_pos e2, if_pos e2]
      · rw [if_neg e2, if_neg e2]
        obtain ⟨y, hy, rfl⟩ := nI_of (x := x2) (Int32.not_lt.mpr e0)
        rw [leN (by omega) (by omega)] at e2
        rw [gd_in (show y < 4 by omega) (by decide), clampN (by omega), r1 y (by omega)]
    · rw [if_neg e0, if_neg e0]
  | succ d ih =>
    intro X n τ hX hn h
    obtain ⟨n, rfl⟩ : ∃ m, n = m + 1 := ⟨n - 1, by omega⟩
    obtain ⟨s, hs, es⟩ := num_ex N X (show X < iK (aI A) ^ N by omega)
    obtain ⟨τ1, e1, h1, r1⟩ := M_makes ok hk hw hN hs h
    rw [es] at e1
    have eb : (dis s N && sameL A (sm (aI A) w s N) k) = false := by
      cases e : (dis s N && sameL A (sm (aI A) w s N) k)
      · rfl
      · have := (Bool.and_eq_true _ _).mp e
        have := hmin s ⟨hs, this.1, this.2⟩
        omega
    rw [eb] at e1
    obtain ⟨τ2, e2, h2⟩ := ih (X + 1) n τ1 (by omega) (by omega) h1
    refine ⟨τ2, ?_, h2⟩
    rw [fX6_chain_28.eq_2, h.1.1.2.2.2.2.1, M_power (by omega), bd_s, iteLE (by omega) (by omega), if_neg (by omega), e1, bd2_s, if_pos (show nI (b2n false) = 0 from rfl), nI_1]
    exact e2
theorem chain_l {q q2 : Nat} {A : AS} (ok : AOK A) {k : Nat} (hk : k ≤ 5) {w : Nat → Nat} (hw : ∀ i, i < k → w i ≤ 10) (x2 : Int32) : ∀ (d N n m : Nat) (σ τ : Mem), N + d = iK (aI A) + 1 → d < n → d < m → CSq σ q q2 A → MI A k w τ → (∃ σ' τ', fX5_fewestClerks_2 0 n σ (nI (enc w k)) (nI N) = some (-9, σ') ∧ fX6_chain_17 0 m τ x2 (nI N) = some (-9, τ') ∧ CSq σ' q q2 A ∧ MS τ' A) ∨ ∃ σ' τ' M s, M ≤ iK (aI A) ∧ (∀ i, i < M → s i < iK (aI A)) ∧ fX5_fewestClerks_2 0 n σ (nI (enc w k)) (nI N) = some (nI M, σ') ∧ fX6_chain_17 0 m τ x2 (nI N) = some (ansC x2 M s, τ') ∧ CSq σ' q q2 A ∧ MS τ' A ∧ ∀ i, i < M → mA σ' 0 11 i = nI (s i) := by
  have hK := ok.1.2.2.2.2.1
  intro d
  induction d with
  | zero =>
    intro N n m σ τ hN hn hm hC h
    obtain ⟨n, rfl⟩ : ∃ m, n = m + 1 := ⟨n - 1, by omega⟩
    obtain ⟨m, rfl⟩ : ∃ m', m = m' + 1 := ⟨m - 1, by omega⟩
    refine Or.inl ⟨σ, τ, ?_, ?_, hC, h.1⟩
    · rw [fX5_fewestClerks_2.eq_2, hC.1.2.2.2.2.1, hC.2.1.2.2.2.2.1, iteL (by omega) (by omega), if_pos (by omega)]
    · rw [fX6_chain_17.eq_2, h.1.1.2.2.2.2.1, iteL (by omega) (by omega), if_pos (by omega)]
  | succ d ih =>
    intro N n m σ τ hN hn hm hC h
    obtain ⟨n, rfl⟩ : ∃ m, n = m + 1 := ⟨n - 1, by omega⟩
    obtain ⟨m, rfl⟩ : ∃ m', m = m' + 1 := ⟨m - 1, by omega⟩
    have hp : iK (aI A) ^ N ≤ 256 := by
      have h2 : iK (aI A) ^ N ≤ 4 ^ 4 := Nat.le_trans (Nat.pow_le_pow_left hK N) (Nat.pow_le_pow_right (by decide) (by omega))
      have h3 : (4 : Nat) ^ 4 = 256 := by decide
      omega
    obtain ⟨r, σ1, e1, c1, -, y1, n1⟩ := C_dfs ok hk hw (show N ≤ iK (aI A) by omega) N 0 10 (fun _ => 0) σ (by omega) (by omega) hC (fun i hi => absurd hi (Nat.not_lt_zero i)) rfl (fun i hi => absurd hi (Nat.not_lt_zero i))
    have e1 : fX5_canMake 10 σ q 0 11 4 (nI (enc w k)) (nI (enc (vW (aN A)) (vN (aN A)))) 0 (nI N) = some (nI (b2n r), σ1) := e1
    have ec : fX5_fewestClerks_2 0 (n + 1) σ (nI (enc w k)) (nI N) = if nI (b2n r) = 0 then fX5_fewestClerks_2 0 n σ1 (nI (enc w k)) (nI (N + 1)) else some (nI N, σ1) := by
      rw [fX5_fewestClerks_2.eq_2, hC.1.2.2.2.2.1, hC.2.1.2.2.2.2.1, iteL (by omega) (by omega), if_neg (by omega), hC.1.2.1, hC.2.2.2.1.2.2.2.1, e1, bd2_s, nI_1]
    have em : fX6_chain_17 0 (m + 1) τ x2 (nI N) = fX6_chain_28 (fX6_chain_17 0 m) 0 FU τ x2 (nI N) (nI 0) := by
      rw [fX6_chain_17.eq_2, h.1.1.2.2.2.2.1, iteL (by omega) (by omega), if_neg (by omega)]
      rfl
    rw [ec, em]
    cases r with
    | false =>
      rw [if_pos (show nI (b2n false) = 0 from rfl)]
      obtain ⟨τ1, e2, h1⟩ := M_c28no ok hk hw (show N ≤ iK (aI A) by omega) (fX6_chain_17 0 m) x2 (fun s => n1 rfl s (fun i hi => absurd hi (Nat.not_lt_zero i))) (iK (aI A) ^ N) 0 FU τ (by omega) (by show _ < 1000; omega) h
      rw [e2]
      exact ih (N + 1) n m σ1 τ1 (by omega) (by omega) (by omega) c1 h1
    | true =>
      rw [if_neg (show ¬ nI (b2n true) = 0 by decide)]
      obtain ⟨s', -, g2, g3, g4⟩ := y1 rfl
      have hlt := num_lt g2.1
      obtain ⟨τ1, e2, h1⟩ := M_c28yes ok hk hw (show N ≤ iK (aI A) by omega) (fX6_chain_17 0 m) x2 g2 (fun s hs => g4 s (fun i hi => absurd hi (Nat.not_lt_zero i)) hs) (num (iK (aI A)) s' N) 0 FU τ (by omega) (by show _ < 1000; omega) h
      exact Or.inr ⟨σ1, τ1, N, s', by omega, g2.1, rfl, e2, c1, h1.1, g3⟩
theorem op_chain {σ τ : Mem} (h : Rel σ τ) (x1 : Int32) (x2 : Int32) : ∃ (r : Int32) (σ' : Mem) (τ' : Mem), fX5_chain σ 0 x1 x2 = some (r, σ') ∧ fX6_chain τ 0 x1 x2 = some (r, τ') ∧ Rel σ' τ' := by
  obtain ⟨A, q, q2, ok, hC, hM⟩ := id h
  have hK := ok.1.2.2.2.2.1
  unfold fX5_chain fX6_chain
  by_cases hx : x2 < -1
  · have hx' : ¬ (-1 : Int32) ≤ x2 := Int32.not_le.mpr hx
    rcases reads_ok hM x1 with ⟨e1, _⟩ | ⟨k, w, k1, k5, hw, rfl, e1, _⟩
    · exact ⟨-1, σ, τ, by rw [e1]; rfl, by rw [if_pos hx], h⟩
    · exact ⟨-1, σ, τ, by rw [e1, bd_s, if_neg (by decide), if_neg hx'], by rw [if_pos hx], h⟩
  · have hx' : (-1 : Int32) ≤ x2 := Int32.not_lt.mp hx
    rw [if_neg hx]
    rcases reads_ok hM x1 with ⟨e1, τ', e2, m1⟩ | ⟨k, w, k1, k5, hw, rfl, e1, τ1, e2, m1, h37, h35⟩
    · exact ⟨-1, σ, τ', by rw [e1]; rfl, by rw [e2]; rfl, A, q, q2, ok, hC, m1⟩
    · rw [e1, bd_s, if_neg (show ¬ (1 : Int32) = 0 by decide), if_pos hx', e2, bd2_s, if_neg (show ¬ (1 : Int32) = 0 by decide)]
      have hw10 : ∀ i, i < k → w i ≤ 10 := fun i hi => Nat.le_trans (hw i hi) (by decide)
      rcases chain_l ok k5 hw10 x2 (iK (aI A) + 1) 0 FU FU σ τ1 (by omega) (by show _ < 1000; omega) (by show _ < 1000; omega) hC ⟨m1, h37, h35⟩ with ⟨σ2, τ2, f1, f2, c2, m2⟩ | ⟨σ2, τ2, M, s, hM4, hs, f1, f2, c2, m2, row⟩
      · have f1 : fX5_fewestClerks σ 0 (nI (enc w k)) = some (-9, σ2) := f1
        exact ⟨-9, σ2, τ2, by rw [f1, bd2_s, if_pos rfl], f2, A, q, q2, ok, c2, m2⟩
      · have f1 : fX5_fewestClerks σ 0 (nI (enc w k)) = some (nI M, σ2) := f1
        refine ⟨ansC x2 M s, σ2, τ2, ?_, f2, A, q, q2, ok, c2, m2⟩
        rw [f1, bd2_s, if_neg (neg9 (by omega))]
        unfold ansC
        by_cases e0 : 0 ≤ x2
        · obtain ⟨y, hy, rfl⟩ := nI_of (x := x2) (Int32.not_lt.mpr e0)
          have y1 : ¬ nI y = -1 := by
            have := eqNg (n := y) (k := 1) (by decide) hy (by decide)
            exact fun e => by rw [← this]; exact e
          rw [if_pos e0, if_neg y1, iteLE (by omega) (by omega), iteLE (by omega) (by omega)]
          by_cases e2 : M ≤ y
          · rw [if_pos e2, if_pos e2]
          · rw [if_neg e2, if_neg e2, show (4 : Int32) = nI 4 from rfl, iteLE (by omega) (by omega), if_neg (by omega), gd_in (show y < 4 by omega) (by decide), clampN (by omega), row y (by omega)]
        · have y1 : x2 = -1 := by
            have h1 := Int32.le_iff_toInt_le.mp hx'
            have h2 : ¬ (0 : Int32).toInt ≤ x2.toInt := fun z => e0 (Int32.le_iff_toInt_le.mpr z)
            refine Int32.toInt_inj.mp ?_
            have h3 : (-1 : Int32).toInt = -1 := by decide
            have h4 : (0 : Int32).toInt = 0 := by decide
            omega
          rw [if_neg e0, if_pos y1]
