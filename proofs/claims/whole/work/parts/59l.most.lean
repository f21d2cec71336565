/-! the first of the best plans -/
def bixF (f : Nat → Nat) : Nat → Nat
  | 0 => 0
  | j + 1 => if j = 0 then 0 else if f (bixF f j) ≤ f j then bixF f j else j
theorem bixF_lt {f : Nat → Nat} : ∀ {j : Nat}, 0 < j → bixF f j < j
  | 0, h => absurd h (Nat.lt_irrefl 0)
  | j + 1, _ => by
    show (if j = 0 then 0 else if f (bixF f j) ≤ f j then bixF f j else j) < j + 1
    by_cases e : j = 0
    · rw [if_pos e]; omega
    · rw [if_neg e]
      have := bixF_lt (f := f) (j := j) (by omega)
      split <;> omega
theorem bixF_0 {f : Nat → Nat} : bixF f (0 + 1) = 0 := if_pos rfl
theorem bixF_k {f : Nat → Nat} {j : Nat} (h : 0 < j) (h2 : f (bixF f j) ≤ f j) : bixF f (j + 1) = bixF f j := by
  show (if j = 0 then 0 else if f (bixF f j) ≤ f j then bixF f j else j) = _
  rw [if_neg (by omega), if_pos h2]
theorem bixF_n {f : Nat → Nat} {j : Nat} (h2 : ¬ f (bixF f j) ≤ f j) : bixF f (j + 1) = j := by
  show (if j = 0 then 0 else if f (bixF f j) ≤ f j then bixF f j else j) = _
  by_cases e : j = 0
  · rw [if_pos e, e]
  · rw [if_neg e, if_neg h2]
def plA (A : AS) (j : Nat) : Nat → Nat := plN (iR (aI A)) (iT (aI A)) j
def kyA (md : Option Nat) (A : AS) (j : Nat) : Nat := keyP md (aI A) (plA A j)
def bsA (md : Option Nat) (A : AS) (j : Nat) : Nat := bixF (kyA md A) j
theorem plA_lt {A : AS} (ok : AOK A) (j t : Nat) : plA A j t < iR (aI A) := by
  have hR := ok.1.2.1
  exact Nat.mod_lt _ (by omega)
theorem pow_b {A : AS} (ok : AOK A) : 0 < iR (aI A) ^ iT (aI A) ∧ iR (aI A) ^ iT (aI A) ≤ 729 := by
  have hT := ok.1.2.2.2.1
  have hR := ok.1.2.1
  refine ⟨Nat.pow_pos (by omega), ?_⟩
  have h1 : iR (aI A) ^ iT (aI A) ≤ 3 ^ iT (aI A) := Nat.pow_le_pow_left hR.2 _
  have h2 : 3 ^ iT (aI A) ≤ 3 ^ 6 := Nat.pow_le_pow_right (by decide) hT
  have h3 : 3 ^ 6 = 729 := by decide
  omega
theorem cI_w {md : Option Nat} {I : IV} (ok : IOK I) (p : Nat → Nat) : ¬ (1000000 : Int32) ≤ cIp md I p := by
  have h1 := LLp_le ok p
  have h3 := SSp_le ok p
  rw [fa_lit 1000000]
  cases md with
  | none =>
    show ¬ nI 1000000 ≤ nI (1000 * LLp I p + SSp I p)
    rw [leN (by omega) (by omega)]; omega
  | some n =>
    have h5 := CNp_le ok n p
    show ¬ nI 1000000 ≤ -nI (CNp I n p)
    rw [Int32.le_iff_toInt_le, negI (by omega), nI_toInt (by omega)]
    omega
theorem C_best_l {q q2 : Nat} {A : AS} (ok : AOK A) {md : Option Nat} : ∀ (r j n : Nat) (σ : Mem) (x3 : Int32), j + r = iR (aI A) ^ iT (aI A) → r < n → CSq σ q q2 A → (∀ w, w < 2 ^ iT (aI A) → WMm σ md (aI A) w) → (j = 0 → x3 = 1000000) → (0 < j → x3 = cIp md (aI A) (plA A (bsA md A j)) ∧ mI σ 6 4 = nI (bsA md A j)) → ∃ σ', fX3_findBest_31 6 n σ q (nI (iR (aI A) ^ iT (aI A))) x3 (nI j) = some (cIp md (aI A) (plA A (bsA md A (iR (aI A) ^ iT (aI A)))), σ') ∧ CSq σ' q q2 A ∧ mI σ' 6 4 = nI (bsA md A (iR (aI A) ^ iT (aI A))) := by
  have hT := ok.1.2.2.2.1
  have hR := ok.1.2.1
  obtain ⟨hp0, hp⟩ := pow_b ok
  intro r
  induction r with
  | zero =>
    intro j n σ x3 hj hn hC hW h0 h1
    obtain ⟨n, rfl⟩ : ∃ m, n = m + 1 := ⟨n - 1, by omega⟩
    have ej : j = iR (aI A) ^ iT (aI A) := by omega
    rw [ej] at h1 ⊢
    obtain ⟨z1, z2⟩ := h1 hp0
    refine ⟨σ, ?_, hC, z2⟩
    rw [fX3_findBest_31.eq_2, iteLE (by omega) (by omega), if_pos (Nat.le_refl _), z1]
  | succ r ih =>
    intro j n σ x3 hj hn hC hW h0 h1
    obtain ⟨n, rfl⟩ : ∃ m, n = m + 1 := ⟨n - 1, by omega⟩
    obtain ⟨σ1, e1, c1, a1, s1⟩ := C_spread ok hC (j := j) (by omega)
    have hW1 : ∀ w, w < 2 ^ iT (aI A) → WMm σ1 md (aI A) w := fun w hw => by
      have := hW w hw
      unfold WMm
      rw [(s1 6 2 (by omega)).2.2.2.1, (s1 6 3 (by omega)).2.2.2.1]
      exact this
    have ec := C_cost ok (md := md) (p := plA A j) (fun t _ => by have := plA_lt ok j t; omega) hW1 a1
    rw [fX3_findBest_31.eq_2, iteLE (by omega) (by omega), if_neg (by omega), e1, bd_s, ec, bd_s, nI_1]
    have new : (j = 0 ∨ ¬ kyA md A (bsA md A j) ≤ kyA md A j) → ∃ σ', fX3_findBest_31 6 n (sI σ1 6 4 (nI j)) q (nI (iR (aI A) ^ iT (aI A))) (cIp md (aI A) (plA A j)) (nI (j + 1)) = some (cIp md (aI A) (plA A (bsA md A (iR (aI A) ^ iT (aI A)))), σ') ∧ CSq σ' q q2 A ∧ mI σ' 6 4 = nI (bsA md A (iR (aI A) ^ iT (aI A))) := fun hh => by
      have eb : bsA md A (j + 1) = j := by
        rcases hh with hh | hh
        · rw [hh]; exact bixF_0
        · exact bixF_n hh
      refine ih (j + 1) n _ _ (by omega) (by omega) (c1.scratch (by repeat (first | exact sameX.rf | refine sameX.sI ?_ (by first | rfl | exact Or.inl rfl | exact Or.inr rfl | trivial | decide | omega | simp) _ | refine sameX.sA ?_ (by first | rfl | exact Or.inl rfl | exact Or.inr rfl | trivial | decide | omega | simp) _ _ | refine sameX.sL ?_ (by first | rfl | exact Or.inl rfl | exact Or.inr rfl | trivial | decide | omega | simp) _ | refine sameX.sP ?_ (by first | rfl | exact Or.inl rfl | exact Or.inr rfl | trivial | decide | omega | simp) _ | refine sameX.sB ?_ (by first | rfl | exact Or.inl rfl | exact Or.inr rfl | trivial | decide | omega | simp) _ _)) ⟨rfl, rfl⟩) (fun w hw => hW1 w hw) (fun h => by omega) (fun _ => ?_)
      rw [eb]
      exact ⟨rfl, by simp only [mI_sI, mI_sL, mI_sP, mI_sA, mI_sB, mL_sI, mL_sL, mL_sP, mL_sA, mL_sB, mP_sI, mP_sL, mP_sP, mP_sA, mP_sB, mA_sI, mA_sL, mA_sP, mA_sAg, mA_sB, mB_sI, mB_sL, mB_sP, mB_sA, mB_sBg, mE_sI, mE_sL, mE_sP, mE_sA, mE_sB, Nat.reduceEqDiff, Nat.reduceAdd, Nat.reduceMul, Nat.reduceSub, Nat.reduceLT, Nat.reduceLeDiff, Nat.reduceDiv, Nat.reduceMod, Nat.reduceBEq, and_true, true_and, and_false, false_and, and_self, ite_true, ite_false, if_true, if_false, reduceIte, eq_self, not_true, not_false_eq_true, Bool.true_and, Bool.and_true, Bool.false_and, Bool.and_false, Bool.or_true, Bool.true_or, Bool.or_false, Bool.false_or, Bool.not_true, Bool.not_false, reduceCtorEq, upd_e, Nat.add_eq_zero_iff, Nat.add_right_cancel_iff, Nat.add_left_cancel_iff]⟩
    by_cases e0 : j = 0
    · rw [h0 e0, if_neg (cI_w ok.1 _), stp_s]
      exact new (Or.inl e0)
    · obtain ⟨z1, z2⟩ := h1 (by omega)
      rw [z1]
      by_cases ek : kyA md A (bsA md A j) ≤ kyA md A j
      · rw [if_pos ((cIp_le ok.1 _ _).mpr ek)]
        have eb : bsA md A (j + 1) = bsA md A j := bixF_k (by omega) ek
        refine ih (j + 1) n σ1 _ (by omega) (by omega) c1 hW1 (fun h => by omega) (fun _ => ?_)
        rw [eb]
        exact ⟨rfl, by rw [(s1 6 4 (by omega)).1]; exact z2⟩
      · rw [if_neg (fun w => ek ((cIp_le ok.1 _ _).mp w)), stp_s]
        exact new (Or.inr ek)
theorem C_best {σ : Mem} {q q2 : Nat} {A : AS} (ok : AOK A) {md : Option Nat} (hC : CSq σ q q2 A) (hW : ∀ w, w < 2 ^ iT (aI A) → WMm σ md (aI A) w) : ∃ σ', fX3_findBest σ 6 q = some (cIp md (aI A) (plA A (bsA md A (iR (aI A) ^ iT (aI A)))), σ') ∧ CSq σ' q q2 A ∧ mI σ' 6 4 = nI (bsA md A (iR (aI A) ^ iT (aI A))) := by
  have hT := ok.1.2.2.2.1
  obtain ⟨hp0, hp⟩ := pow_b ok
  have l : ∀ (r i n a : Nat), i + r = iT (aI A) → r < n → fX3_findBest_4 6 n σ q (nI a) (nI i) = fX3_findBest_31 6 FU σ q (nI (a * iR (aI A) ^ r)) 1000000 0 := by
    intro r
    induction r with
    | zero =>
      intro i n a hi hn
      obtain ⟨n, rfl⟩ : ∃ m, n = m + 1 := ⟨n - 1, by omega⟩
      rw [fX3_findBest_4.eq_2, hC.2.1.2.2.2.1, iteLE (by omega) (by omega), if_pos (by omega), Nat.pow_zero, Nat.mul_one]
    | succ r ih =>
      intro i n a hi hn
      obtain ⟨n, rfl⟩ : ∃ m, n = m + 1 := ⟨n - 1, by omega⟩
      rw [fX3_findBest_4.eq_2, hC.2.1.2.2.2.1, iteLE (by omega) (by omega), if_neg (by omega), hC.2.1.2.1, pk_mul, nI_1, ih (i + 1) n (a * iR (aI A)) (by omega) (by omega), Nat.pow_succ, Nat.mul_assoc, Nat.mul_comm (iR (aI A))]
  have e := l (iT (aI A)) 0 FU 1 (by omega) (by show _ < 1000; omega)
  rw [Nat.one_mul] at e
  obtain ⟨σ', e1, r⟩ := C_best_l ok (md := md) (iR (aI A) ^ iT (aI A)) 0 FU σ 1000000 (by omega) (by show _ < 1000; omega) hC hW (fun _ => rfl) (fun h => absurd h (Nat.lt_irrefl 0))
  refine ⟨σ', ?_, r⟩
  have e : fX3_findBest σ 6 q = _ := e
  exact e.trans e1
theorem C_bestRow {σ : Mem} {q q2 : Nat} {A : AS} (ok : AOK A) (hC : CSq σ q q2 A) {j t : Nat} (hj : j < 100000) (h4 : mI σ 6 4 = nI j) (ht : t < iT (aI A)) : ∃ σ', fX3_bestRowOf σ 6 q (nI t) = some (nI (plA A j t), σ') ∧ CSq σ' q q2 A := by
  have hT := ok.1.2.2.2.1
  have hR := ok.1.2.1
  obtain ⟨σ', e1, c1, a1, s1⟩ := C_spread ok hC hj
  refine ⟨σ', ?_, c1⟩
  have hpl := plA_lt ok j t
  have er := rowWith_g (σ := σ') (a := 6) (b := 1) (rw := fun u => if u < iT (aI A) then plA A j u else 3) (fun r hr => by
    rw [a1 r hr]
    refine congrArg nI (bs6_c (fun u _ => ?_))
    unfold mkR
    by_cases e : u < iT (aI A)
    · rw [if_pos e, decide_eq_true e, Bool.true_and]; rfl
    · rw [if_neg e, decide_eq_false e, Bool.false_and, decide_eq_false (show ¬ 3 = r by omega)]) (t := t) (by omega) (by
    show (if t < iT (aI A) then plA A j t else 3) ≤ 3
    rw [if_pos ht]; omega)
  unfold fX3_bestRowOf
  rw [h4, e1, bd_s, er, bd_s]
  show some ((if (if t < iT (aI A) then plA A j t else 3) < 3 then nI (if t < iT (aI A) then plA A j t else 3) else -9), σ') = _
  rw [if_pos ht, if_pos (by omega)]
/-! the model's search -/
theorem M_one {τ : Mem} {A : AS} (ok : AOK A) (hM : MS τ A) {j : Nat} (hj : j < 100000) : ∃ (v : Int32) (τ1 τ2 : Mem), fX6_lays τ 0 (nI j) = some τ1 ∧ fX6_goes τ1 0 = some (v, τ2) ∧ MS τ2 A ∧ ∀ t, t < iT (aI A) → mA τ2 0 33 t = nI (sdP (aI A) (plA A j) t) := by
  obtain ⟨τ1, e1, m1, a1⟩ := M_lays ok hM hj
  obtain ⟨τ2, e2, a2, -, m2⟩ := M_goes ok (p := plA A j) (fun t _ => plA_lt ok j t) m1 a1
  exact ⟨_, τ1, τ2, e1, e2, m2, a2⟩
theorem M_most_l {A : AS} (ok : AOK A) {k : Nat} (hk : k ≤ 200) {x2 : Int32} : ∀ (r j n : Nat) (τ : Mem) (x3 x4 : Int32), j + r = iR (aI A) ^ iT (aI A) → r < n → MS τ A → (j = 0 → x4 = -1) → (0 < j → x3 = nI (bsA (some k) A j) ∧ x4 = nI (CNp (aI A) k (plA A (bsA (some k) A j)))) → ∃ τ', MS τ' A ∧ fX6_most_35 0 n τ (nI k) x2 x3 x4 (nI j) = (if x2 = -9 then some (nI (CNp (aI A) k (plA A (bsA (some k) A (iR (aI A) ^ iT (aI A))))), τ') else gd (inb x2 6) (some (mA τ' 0 30 x2.toNatClampNeg, τ'))) ∧ ∀ t, t < iT (aI A) → mA τ' 0 30 t = nI (plA A (bsA (some k) A (iR (aI A) ^ iT (aI A))) t) := by
  have hT := ok.1.2.2.2.1
  have hR := ok.1.2.1
  obtain ⟨hp0, hp⟩ := pow_b ok
  intro r
  induction r with
  | zero =>
    intro j n τ x3 x4 hj hn hM h0 h1
    obtain ⟨n, rfl⟩ : ∃ m, n = m + 1 := ⟨n - 1, by omega⟩
    have ej : j = iR (aI A) ^ iT (aI A) := by omega
    rw [ej] at h1 ⊢
    obtain ⟨z1, z2⟩ := h1 hp0
    have hb := bixF_lt (f := kyA (some k) A) hp0
    have hb : bsA (some k) A (iR (aI A) ^ iT (aI A)) < _ := hb
    obtain ⟨τ1, e1, m1, a1⟩ := M_lays ok hM (j := bsA (some k) A (iR (aI A) ^ iT (aI A))) (by omega)
    refine ⟨τ1, m1, ?_, a1⟩
    rw [fX6_most_35.eq_2, hM.1.2.1, hM.1.2.2.2.1, M_power (by omega), bd_s, iteLE (by omega) (by omega), if_pos (Nat.le_refl _), z1, e1, bd_s, z2]
  | succ r ih =>
    intro j n τ x3 x4 hj hn hM h0 h1
    obtain ⟨n, rfl⟩ : ∃ m, n = m + 1 := ⟨n - 1, by omega⟩
    obtain ⟨v, τ1, τ2, e1, e2, m2, a2⟩ := M_one ok hM (j := j) (by omega)
    have eby := M_by ok m2 hk a2
    have hc := CNp_le ok.1 k (plA A j)
    rw [fX6_most_35.eq_2, hM.1.2.1, hM.1.2.2.2.1, M_power (by omega), bd_s, iteLE (by omega) (by omega), if_neg (by omega), e1, bd_s, e2, bd2_s, eby, bd_s]
    unfold fX6_most_79
    rw [eby, bd_s, bd_s, nI_1]
    have new : (j = 0 ∨ ¬ kyA (some k) A (bsA (some k) A j) ≤ kyA (some k) A j) → ∃ τ', MS τ' A ∧ fX6_most_35 0 n τ2 (nI k) x2 (nI j) (nI (CNp (aI A) k (plA A j))) (nI (j + 1)) = (if x2 = -9 then some (nI (CNp (aI A) k (plA A (bsA (some k) A (iR (aI A) ^ iT (aI A))))), τ') else gd (inb x2 6) (some (mA τ' 0 30 x2.toNatClampNeg, τ'))) ∧ ∀ t, t < iT (aI A) → mA τ' 0 30 t = nI (plA A (bsA (some k) A (iR (aI A) ^ iT (aI A))) t) := fun hh => by
      have eb : bsA (some k) A (j + 1) = j := by
        rcases hh with hh | hh
        · rw [hh]; exact bixF_0
        · exact bixF_n hh
      refine ih (j + 1) n τ2 _ _ (by omega) (by omega) m2 (fun h => by omega) (fun _ => ?_)
      rw [eb]
      exact ⟨rfl, rfl⟩
    by_cases e0 : j = 0
    · have hle : ¬ nI (CNp (aI A) k (plA A j)) ≤ x4 := by
        rw [h0 e0, Int32.le_iff_toInt_le, nI_toInt (by omega), show (-1 : Int32).toInt = -1 from rfl]; omega
      rw [if_neg hle, bd_s, if_neg hle, bd_s]
      exact new (Or.inl e0)
    · obtain ⟨z1, z2⟩ := h1 (by omega)
      have hcb := CNp_le ok.1 k (plA A (bsA (some k) A j))
      have hky : (kyA (some k) A (bsA (some k) A j) ≤ kyA (some k) A j) ↔ CNp (aI A) k (plA A j) ≤ CNp (aI A) k (plA A (bsA (some k) A j)) := by
        show 1000 - CNp (aI A) k (plA A (bsA (some k) A j)) ≤ 1000 - CNp (aI A) k (plA A j) ↔ _
        omega
      by_cases ek : kyA (some k) A (bsA (some k) A j) ≤ kyA (some k) A j
      · have hle : nI (CNp (aI A) k (plA A j)) ≤ x4 := by
          rw [z2, leN (by omega) (by omega)]; exact hky.mp ek
        rw [if_pos hle, if_pos hle]
        have eb : bsA (some k) A (j + 1) = bsA (some k) A j := bixF_k (by omega) ek
        refine ih (j + 1) n τ2 _ _ (by omega) (by omega) m2 (fun h => by omega) (fun _ => ?_)
        rw [eb]
        exact ⟨z1, z2⟩
      · have hle : ¬ nI (CNp (aI A) k (plA A j)) ≤ x4 := by
          rw [z2, leN (by omega) (by omega)]; exact fun w => ek (hky.mpr w)
        rw [if_neg hle, bd_s, if_neg hle, bd_s]
        exact new (Or.inr ek)
theorem op_most {σ τ : Mem} (h : Rel σ τ) (x1 : Int32) (x2 : Int32) : ∃ (r : Int32) (σ' : Mem) (τ' : Mem), fX5_most σ 0 x1 x2 = some (r, σ') ∧ fX6_most τ 0 x1 x2 = some (r, τ') ∧ Rel σ' τ' := by
  obtain ⟨A, q, q2, ok, hC, hM⟩ := id h
  have hT := ok.1.2.2.2.1
  have hR := ok.1.2.1
  obtain ⟨hp0, hp⟩ := pow_b ok
  unfold fX5_most fX6_most
  rcases pk_rng x1 (a := 0) (b := 200) (by decide) (by decide) with h1 | ⟨k, -, hk, rfl⟩
  · have em : fX6_in x1 0 200 = some 0 := inr_no (a := 0) (b := 200) h1
    rw [em, bd_s, if_pos rfl]
    by_cases e : x1 < 0
    · rw [if_pos e]
      exact ⟨_, _, _, rfl, rfl, h⟩
    · rw [if_neg e, if_pos (show (200 : Int32) < x1 from h1.resolve_left e)]
      exact ⟨_, _, _, rfl, rfl, h⟩
  · have em : fX6_in (nI k) 0 200 = some 1 := inr_yes (a := 0) (b := 200) (Nat.zero_le k) hk (by decide)
    rw [em, bd_s, if_neg (show ¬ (1 : Int32) = 0 by decide), if_neg (nI_pos (by omega)), show (200 : Int32) = nI 200 from rfl, iteL (by omega) (by omega), if_neg (by omega)]
    rcases nt3 ok x2 with h2 | ⟨h9, h2⟩
    · rw [C_ntY ok hC h2, bd_s, if_neg (show ¬ (1 : Int32) = 0 by decide), hC.1.2.2.2.1, hC.1.2.2.2.2.1]
      obtain ⟨σ1, e1, c1, w1⟩ := C_weigh ok (md := some k) (fun n hn => by cases hn; exact hk) hC
      have e1 : fX3_weigh σ 6 q (nI k) = some σ1 := e1
      obtain ⟨σ2, e2, c2, b2⟩ := C_best ok (md := some k) c1 w1
      rw [e1, bd_s, c1.1.2.2.2.1, c1.1.2.2.2.2.1, e2, bd2_s, c2.1.2.2.2.1, c2.1.2.2.2.2.1]
      obtain ⟨τ', m1, f1, f2⟩ := M_most_l ok hk (x2 := x2) (iR (aI A) ^ iT (aI A)) 0 FU τ 0 (-1) (by omega) (by show _ < 1000; omega) hM (fun _ => rfl) (fun h => absurd h (Nat.lt_irrefl 0))
      have f1 : fX6_most_35 0 FU τ (nI k) x2 0 (-1) 0 = _ := f1
      have hm : (if x2 = -9 then fX6_most_35 0 FU τ (nI k) x2 0 (-1) 0 else bd (fX6_isTraveller τ 0 x2) fun r33 => if r33 = 0 then some ((-1 : Int32), τ) else fX6_most_35 0 FU τ (nI k) x2 0 (-1) 0) = fX6_most_35 0 FU τ (nI k) x2 0 (-1) 0 := by
        rcases h2 with h2 | ⟨t, ht, rfl⟩
        · rw [if_pos h2]
        · rw [if_neg (neg9 (by omega)), M_isT_yes hM.1 ok.1 ht, bd_s, if_neg (by decide)]
      rw [hm, f1]
      have hbl : bsA (some k) A (iR (aI A) ^ iT (aI A)) < iR (aI A) ^ iT (aI A) := bixF_lt hp0
      rcases h2 with h2 | ⟨t, ht, rfl⟩
      · rw [if_pos h2, if_pos h2]
        refine ⟨_, _, _, rfl, ?_, A, q, q2, ok, c2, m1⟩
        show some (nI (CNp (aI A) k _), τ') = some (- -nI (CNp (aI A) k _), τ')
        rw [Int32.neg_neg]
      · obtain ⟨σ3, e3, c3⟩ := C_bestRow ok c2 (by omega) b2 ht
        rw [if_neg (neg9 (by omega)), if_neg (neg9 (by omega)), e3, bd2_s, gd_in (show t < 6 by omega) (by decide), clampN (by omega), f2 t ht]
        exact ⟨_, _, _, rfl, rfl, A, q, q2, ok, c3, m1⟩
    · rw [C_ntN hC h9 h2, bd_s, if_pos rfl, if_neg h9, M_isT_no hM.1 ok.1 h2, bd_s, if_pos rfl]
      exact ⟨_, _, _, rfl, rfl, h⟩
theorem M_soon_l {A : AS} (ok : AOK A) {x2 : Int32} : ∀ (r j n : Nat) (τ : Mem) (x3 x4 : Int32), j + r = iR (aI A) ^ iT (aI A) → r < n → MS τ A → (j = 0 → x4 = 1000000000) → (0 < j → x3 = nI (bsA none A j) ∧ x4 = nI (10000 * LLp (aI A) (plA A (bsA none A j)) + SSp (aI A) (plA A (bsA none A j)))) → ∃ τ', MS τ' A ∧ fX6_soonest_24 0 n τ x2 x3 x4 (nI j) = (if x2 = -9 then some (nI (10000 * LLp (aI A) (plA A (bsA none A (iR (aI A) ^ iT (aI A)))) + SSp (aI A) (plA A (bsA none A (iR (aI A) ^ iT (aI A))))) / (10000 : Int32), τ') else gd (inb x2 6) (some (mA τ' 0 30 x2.toNatClampNeg, τ'))) ∧ ∀ t, t < iT (aI A) → mA τ' 0 30 t = nI (plA A (bsA none A (iR (aI A) ^ iT (aI A))) t) := by
  have hT := ok.1.2.2.2.1
  have hR := ok.1.2.1
  obtain ⟨hp0, hp⟩ := pow_b ok
  intro r
  induction r with
  | zero =>
    intro j n τ x3 x4 hj hn hM h0 h1
    obtain ⟨n, rfl⟩ : ∃ m, n = m + 1 := ⟨n - 1, by omega⟩
    have ej : j = iR (aI A) ^ iT (aI A) := by omega
    rw [ej] at h1 ⊢
    obtain ⟨z1, z2⟩ := h1 hp0
    have hb := bixF_lt (f := kyA none A) hp0
    have hb : bsA none A (iR (aI A) ^ iT (aI A)) < _ := hb
    obtain ⟨τ1, e1, m1, a1⟩ := M_lays ok hM (j := bsA none A (iR (aI A) ^ iT (aI A))) (by omega)
    refine ⟨τ1, m1, ?_, a1⟩
    rw [fX6_soonest_24.eq_2, hM.1.2.1, hM.1.2.2.2.1, M_power (by omega), bd_s, iteLE (by omega) (by omega), if_pos (Nat.le_refl _), z1, e1, bd_s, z2]
  | succ r ih =>
    intro j n τ x3 x4 hj hn hM h0 h1
    obtain ⟨n, rfl⟩ : ∃ m, n = m + 1 := ⟨n - 1, by omega⟩
    obtain ⟨v, τ1, τ2, e1, e2, m2, a2⟩ := M_one ok hM (j := j) (by omega)
    have eby := M_late ok m2 a2
    have hL := LLp_le ok.1 (plA A j)
    have hS := SSp_le ok.1 (plA A j)
    rw [fX6_soonest_24.eq_2, hM.1.2.1, hM.1.2.2.2.1, M_power (by omega), bd_s, iteLE (by omega) (by omega), if_neg (by omega), e1, bd_s, e2, bd2_s, eby, bd_s]
    unfold fX6_soonest_66
    rw [eby, bd_s, bd_s, nI_1]
    have new : (j = 0 ∨ ¬ kyA none A (bsA none A j) ≤ kyA none A j) → ∃ τ', MS τ' A ∧ fX6_soonest_24 0 n τ2 x2 (nI j) (nI (10000 * LLp (aI A) (plA A j) + SSp (aI A) (plA A j))) (nI (j + 1)) = (if x2 = -9 then some (nI (10000 * LLp (aI A) (plA A (bsA none A (iR (aI A) ^ iT (aI A)))) + SSp (aI A) (plA A (bsA none A (iR (aI A) ^ iT (aI A))))) / (10000 : Int32), τ') else gd (inb x2 6) (some (mA τ' 0 30 x2.toNatClampNeg, τ'))) ∧ ∀ t, t < iT (aI A) → mA τ' 0 30 t = nI (plA A (bsA none A (iR (aI A) ^ iT (aI A))) t) := fun hh => by
      have eb : bsA none A (j + 1) = j := by
        rcases hh with hh | hh
        · rw [hh]; exact bixF_0
        · exact bixF_n hh
      refine ih (j + 1) n τ2 _ _ (by omega) (by omega) m2 (fun h => by omega) (fun _ => ?_)
      rw [eb]
      exact ⟨rfl, rfl⟩
    by_cases e0 : j = 0
    · have hle : ¬ x4 ≤ nI (10000 * LLp (aI A) (plA A j) + SSp (aI A) (plA A j)) := by
        rw [h0 e0, fa_lit 1000000000, leN (by omega) (by omega)]; omega
      rw [if_neg hle, bd_s, if_neg hle, bd_s]
      exact new (Or.inl e0)
    · obtain ⟨z1, z2⟩ := h1 (by omega)
      have hLb := LLp_le ok.1 (plA A (bsA none A j))
      have hSb := SSp_le ok.1 (plA A (bsA none A j))
      have hky : (kyA none A (bsA none A j) ≤ kyA none A j) ↔ 10000 * LLp (aI A) (plA A (bsA none A j)) + SSp (aI A) (plA A (bsA none A j)) ≤ 10000 * LLp (aI A) (plA A j) + SSp (aI A) (plA A j) := by
        show 1000 * LLp (aI A) (plA A (bsA none A j)) + SSp (aI A) (plA A (bsA none A j)) ≤ 1000 * LLp (aI A) (plA A j) + SSp (aI A) (plA A j) ↔ _
        omega
      by_cases ek : kyA none A (bsA none A j) ≤ kyA none A j
      · have hle : x4 ≤ nI (10000 * LLp (aI A) (plA A j) + SSp (aI A) (plA A j)) := by
          rw [z2, leN (by omega) (by omega)]; exact hky.mp ek
        rw [if_pos hle, if_pos hle]
        have eb : bsA none A (j + 1) = bsA none A j := bixF_k (by omega) ek
        refine ih (j + 1) n τ2 _ _ (by omega) (by omega) m2 (fun h => by omega) (fun _ => ?_)
        rw [eb]
        exact ⟨z1, z2⟩
      · have hle : ¬ x4 ≤ nI (10000 * LLp (aI A) (plA A j) + SSp (aI A) (plA A j)) := by
          rw [z2, leN (by omega) (by omega)]; exact fun w => ek (hky.mpr w)
        rw [if_neg hle, bd_s, if_neg hle, bd_s]
        exact new (Or.inr ek)
theorem op_soonest {σ τ : Mem} (h : Rel σ τ) (x1 : Int32) : ∃ (r : Int32) (σ' : Mem) (τ' : Mem), fX5_soonest σ 0 x1 = some (r, σ') ∧ fX6_soonest τ 0 x1 = some (r, τ') ∧ Rel σ' τ' := by
  obtain ⟨A, q, q2, ok, hC, hM⟩ := id h
  have hT := ok.1.2.2.2.1
  have hR := ok.1.2.1
  obtain ⟨hp0, hp⟩ := pow_b ok
  unfold fX5_soonest fX6_soonest
  rcases nt3 ok x1 with h2 | ⟨h9, h2⟩
  · rw [C_ntY ok hC h2, bd_s, if_neg (show ¬ (1 : Int32) = 0 by decide), hC.1.2.2.2.1, hC.1.2.2.2.2.1]
    obtain ⟨σ1, e1, c1, w1⟩ := C_weigh ok (md := none) (fun n hn => by cases hn) hC
    have e1 : fX3_weigh σ 6 q (-9) = some σ1 := e1
    obtain ⟨σ2, e2, c2, b2⟩ := C_best ok (md := none) c1 w1
    rw [e1, bd_s, c1.1.2.2.2.1, c1.1.2.2.2.2.1, e2, bd2_s, c2.1.2.2.2.1, c2.1.2.2.2.2.1]
    obtain ⟨τ', m1, f1, f2⟩ := M_soon_l ok (x2 := x1) (iR (aI A) ^ iT (aI A)) 0 FU τ 0 1000000000 (by omega) (by show _ < 1000; omega) hM (fun _ => rfl) (fun h => absurd h (Nat.lt_irrefl 0))
    have f1 : fX6_soonest_24 0 FU τ x1 0 1000000000 0 = _ := f1
    have hm : (if x1 = -9 then fX6_soonest_24 0 FU τ x1 0 1000000000 0 else bd (fX6_isTraveller τ 0 x1) fun r33 => if r33 = 0 then some ((-1 : Int32), τ) else fX6_soonest_24 0 FU τ x1 0 1000000000 0) = fX6_soonest_24 0 FU τ x1 0 1000000000 0 := by
      rcases h2 with h2 | ⟨t, ht, rfl⟩
      · rw [if_pos h2]
      · rw [if_neg (neg9 (by omega)), M_isT_yes hM.1 ok.1 ht, bd_s, if_neg (by decide)]
    rw [hm, f1]
    have hbl : bsA none A (iR (aI A) ^ iT (aI A)) < iR (aI A) ^ iT (aI A) := bixF_lt hp0
    rcases h2 with h2 | ⟨t, ht, rfl⟩
    · rw [if_pos h2, if_pos h2]
      refine ⟨_, _, _, rfl, ?_, A, q, q2, ok, c2, m1⟩
      have hL := LLp_le ok.1 (plA A (bsA none A (iR (aI A) ^ iT (aI A))))
      have hS := SSp_le ok.1 (plA A (bsA none A (iR (aI A) ^ iT (aI A))))
      show some (nI (10000 * LLp (aI A) _ + SSp (aI A) _) / (10000 : Int32), τ') = some (nI (1000 * LLp (aI A) _ + SSp (aI A) _) / (1000 : Int32), τ')
      rw [fa_lit 10000, fa_lit 1000, pk_div (by omega) (by decide) (by decide), pk_div (by omega) (by decide) (by decide)]
      refine congrArg (fun z => some (nI z, τ')) ?_
      omega
    · obtain ⟨σ3, e3, c3⟩ := C_bestRow ok c2 (by omega) b2 ht
      rw [if_neg (neg9 (by omega)), if_neg (neg9 (by omega)), e3, bd2_s, gd_in (show t < 6 by omega) (by decide), clampN (by omega), f2 t ht]
      exact ⟨_, _, _, rfl, rfl, A, q, q2, ok, c3, m1⟩
  · rw [C_ntN hC h9 h2, bd_s, if_pos rfl, if_neg h9, M_isT_no hM.1 ok.1 h2, bd_s, if_pos rfl]
    exact ⟨_, _, _, rfl, rfl, h⟩
