/-! sets of ten words as bits; what stood there -/
def bs10 (p : Nat → Bool) : Nat := b2n (p 0) + 2 * b2n (p 1) + 4 * b2n (p 2) + 8 * b2n (p 3) + 16 * b2n (p 4) + 32 * b2n (p 5) + 64 * b2n (p 6) + 128 * b2n (p 7) + 256 * b2n (p 8) + 512 * b2n (p 9)
theorem lt10 {P : Nat → Prop} (h0 : P 0) (h1 : P 1) (h2 : P 2) (h3 : P 3) (h4 : P 4) (h5 : P 5) (h6 : P 6) (h7 : P 7) (h8 : P 8) (h9 : P 9) : ∀ w, w < 10 → P w := fun w hw => by
  match w, hw with
  | 0, _ => exact h0
  | 1, _ => exact h1
  | 2, _ => exact h2
  | 3, _ => exact h3
  | 4, _ => exact h4
  | 5, _ => exact h5
  | 6, _ => exact h6
  | 7, _ => exact h7
  | 8, _ => exact h8
  | 9, _ => exact h9
  | n + 10, h => exact absurd h (by omega)
theorem bs10_c {b c : Nat → Bool} (h : ∀ t, t < 10 → b t = c t) : bs10 b = bs10 c := by
  unfold bs10
  rw [h 0 (by decide), h 1 (by decide), h 2 (by decide), h 3 (by decide), h 4 (by decide), h 5 (by decide), h 6 (by decide), h 7 (by decide), h 8 (by decide), h 9 (by decide)]
theorem bs10_lt (b : Nat → Bool) : bs10 b ≤ 1023 := by
  unfold bs10
  have h0 := b2n_le (b 0); have h1 := b2n_le (b 1); have h2 := b2n_le (b 2); have h3 := b2n_le (b 3); have h4 := b2n_le (b 4); have h5 := b2n_le (b 5); have h6 := b2n_le (b 6); have h7 := b2n_le (b 7); have h8 := b2n_le (b 8); have h9 := b2n_le (b 9)
  omega
theorem b2n_d (b : Bool) {n : Nat} (h : n = b2n b) : decide (n = 1) = b := by
  subst h; cases b <;> rfl
theorem tb_bs10 (b : Nat → Bool) : ∀ w, w < 10 → tb (bs10 b) w = b w := by
  have h0 := b2n_le (b 0); have h1 := b2n_le (b 1); have h2 := b2n_le (b 2); have h3 := b2n_le (b 3); have h4 := b2n_le (b 4); have h5 := b2n_le (b 5); have h6 := b2n_le (b 6); have h7 := b2n_le (b 7); have h8 := b2n_le (b 8); have h9 := b2n_le (b 9)
  refine lt10 ?_ ?_ ?_ ?_ ?_ ?_ ?_ ?_ ?_ ?_ <;> unfold tb bs10 <;> refine b2n_d _ ?_ <;> simp only [Nat.reducePow] <;> omega
theorem bs10_or_k : ∀ (u : Fin 1024) (w : Fin 10), nI u.val ||| (nI 1 <<< (nI w.val &&& nI 31)) = nI (bs10 (fun j => tb u.val j || decide (j = w.val))) := by decide +kernel
theorem bs10_or (p : Nat → Bool) {w : Nat} (hw : w < 10) : nI (bs10 p) ||| (nI 1 <<< (nI w &&& nI 31)) = nI (bs10 (fun j => p j || decide (j = w))) := by
  have h := bs10_lt p
  refine (bs10_or_k ⟨bs10 p, by omega⟩ ⟨w, hw⟩).trans (congrArg nI (bs10_c (fun j hj => ?_)))
  show (tb (bs10 p) j || decide (j = w)) = _
  rw [tb_bs10 p j hj]
theorem or0_k : ∀ (u : Fin 1024), nI u.val ||| nI 0 = nI u.val := by decide +kernel
theorem or0 (p : Nat → Bool) : nI (bs10 p) ||| nI 0 = nI (bs10 p) := by
  have h := bs10_lt p
  exact or0_k ⟨bs10 p, by omega⟩
theorem nI_and (a b : Nat) : nI a &&& nI b = nI (a &&& b) := by
  show Int32.ofNat a &&& Int32.ofNat b = Int32.ofNat (a &&& b)
  refine Int32.toBitVec_inj.mp ?_
  simp only [Int32.toBitVec_and, Int32.toBitVec_ofNat', BitVec.ofNat_and]
theorem tb_t (u w : Nat) : tb u w = u.testBit w := by
  unfold tb; rw [Nat.testBit_eq_decide_div_mod_eq]
theorem bs10_and (p q : Nat → Bool) : nI (bs10 p) &&& nI (bs10 q) = nI (bs10 (fun w => p w && q w)) := by
  rw [nI_and]
  refine congrArg nI (Nat.eq_of_testBit_eq (fun i => ?_))
  rw [Nat.testBit_and]
  by_cases hi : i < 10
  · rw [← tb_t, ← tb_t, ← tb_t, tb_bs10 p i hi, tb_bs10 q i hi, tb_bs10 _ i hi]
  · have z : ∀ r : Nat → Bool, (bs10 r).testBit i = false := fun r => by
      refine Nat.testBit_lt_two_pow ?_
      have := bs10_lt r
      have : 2 ^ 10 ≤ 2 ^ i := Nat.pow_le_pow_right (by decide) (by omega)
      omega
    rw [z, z, z]; rfl
theorem bs10_1 : bs10 (fun _ => true) = 1023 := by decide
theorem bs10_0 : bs10 (fun _ => false) = 0 := by decide
/-! -/
theorem C_cfrom_l {σ : Mem} {q : Nat} {I : IV} (h : IC σ q I) (ok : IOK I) {k c : Nat} (hk : k < iK I) (hc : c ≤ 10) : ∀ (d w n : Nat), w + d = 10 → d < n → fX1_copiedFrom_5 σ q n (nI c) (nI k) (nI (bs10 (fun j => decide (j < w) && decide (cpw I k j = c)))) (nI w) = some (nI (bs10 (fun j => decide (cpw I k j = c)))) := by
  intro d
  induction d with
  | zero =>
    intro w n hw hn
    obtain ⟨n, rfl⟩ : ∃ m, n = m + 1 := ⟨n - 1, by omega⟩
    rw [fX1_copiedFrom_5.eq_2, show (10 : Int32) = nI 10 from rfl, iteLE (by omega) (by omega), if_pos (by omega)]
    exact congrArg some (congrArg nI (bs10_c (fun j hj => by rw [decide_eq_true (show j < w by omega), Bool.true_and])))
  | succ d ih =>
    intro w n hw hn
    obtain ⟨n, rfl⟩ : ∃ m, n = m + 1 := ⟨n - 1, by omega⟩
    have hcp := cpw_le ok hk (show w ≤ 10 by omega)
    rw [fX1_copiedFrom_5.eq_2, show (10 : Int32) = nI 10 from rfl, iteLE (by omega) (by omega), if_neg (by omega), C_copied h ok hk (by omega), bd_s, iteE (by omega) (by omega), nI_1]
    by_cases e : cpw I k w = c
    · rw [if_pos e]
      have eo := bs10_or (fun j => decide (j < w) && decide (cpw I k j = c)) (show w < 10 by omega)
      refine (congrArg (fun z => fX1_copiedFrom_5 σ q n (nI c) (nI k) z (nI (w + 1))) (eo.trans (congrArg nI (bs10_c (c := fun j => decide (j < w + 1) && decide (cpw I k j = c)) (fun j hj => ?_))))).trans (ih (w + 1) n (by omega) (by omega))
      by_cases ej : j = w
      · rw [ej, decide_eq_true e, decide_eq_true rfl, decide_eq_true (show w < w + 1 by omega), Bool.or_true]; rfl
      · rw [decide_eq_false ej, Bool.or_false]
        by_cases e2 : j < w
        · rw [decide_eq_true e2, decide_eq_true (show j < w + 1 by omega)]
        · rw [decide_eq_false e2, decide_eq_false (show ¬ j < w + 1 by omega)]
    · rw [if_neg e]
      refine (congrArg (fun z => fX1_copiedFrom_5 σ q n (nI c) (nI k) (nI z) (nI (w + 1))) (bs10_c (c := fun j => decide (j < w + 1) && decide (cpw I k j = c)) (fun j hj => ?_))).trans (ih (w + 1) n (by omega) (by omega))
      by_cases ej : j = w
      · rw [ej, decide_eq_false e, Bool.and_false, Bool.and_false]
      · by_cases e2 : j < w
        · rw [decide_eq_true e2, decide_eq_true (show j < w + 1 by omega)]
        · rw [decide_eq_false e2, decide_eq_false (show ¬ j < w + 1 by omega)]
theorem C_cfrom {σ : Mem} {q : Nat} {I : IV} (h : IC σ q I) (ok : IOK I) {k c : Nat} (hk : k < iK I) (hc : c ≤ 10) : fX1_copiedFrom σ q (nI c) (nI k) = some (nI (bs10 (fun j => decide (cpw I k j = c)))) := by
  have e := C_cfrom_l h ok hk hc 10 0 FU (by omega) (by decide)
  have z : bs10 (fun j => decide (j < 0) && decide (cpw I k j = c)) = 0 := (bs10_c (c := fun _ => false) (fun j _ => by rw [decide_eq_false (Nat.not_lt_zero j), Bool.false_and])).trans bs10_0
  rw [z] at e
  exact e
/-- may word w have stood at i, by the first b brown copies -/
def stB (A : AS) (i : Nat) : Nat → Nat → Bool
  | 0, _ => true
  | b + 1, w => stB A i b w && decide (cpw (aI A) ((aB A).2.2.2 b) w = (aB A).2.2.1 b i)
def stS (A : AS) (i : Nat) : Nat := bs10 (stB A i (aB A).1)
theorem C_stood_l {σ : Mem} {q q2 : Nat} {A : AS} (ok : AOK A) (hC : CSq σ q q2 A) {i : Nat} (hi : i < (aB A).2.1) : ∀ (d b n : Nat), b + d = (aB A).1 → d < n → fX5_mayHaveStood_6 σ 0 n (nI i) (nI (bs10 (stB A i b))) (nI b) = some (nI (stS A i)) := by
  have hP1 : mP σ 0 1 = q := hC.1.2.2.2.2.1
  obtain ⟨b1, b2, b3⟩ := hC.2.2.2.2.2.2.1
  obtain ⟨o1, o2, o3, o4⟩ := ok.2.2.2.2.2.2
  intro d
  induction d with
  | zero =>
    intro b n hb hn
    obtain ⟨n, rfl⟩ : ∃ m, n = m + 1 := ⟨n - 1, by omega⟩
    rw [fX5_mayHaveStood_6.eq_2, b1, iteLE (by omega) (by omega), if_pos (by omega), show b = (aB A).1 by omega]
    rfl
  | succ d ih =>
    intro b n hb hn
    obtain ⟨n, rfl⟩ : ∃ m, n = m + 1 := ⟨n - 1, by omega⟩
    have hb0 : b < (aB A).1 := by omega
    have w1 := wordAt_ok (o4 b hb0) (o2 (by omega)).2 hi
    have w2 := C_cfrom hC.2.1 ok.1 (o3 b hb0) (o4 b hb0 i hi)
    rw [fX5_mayHaveStood_6.eq_2, b1, iteLE (by omega) (by omega), if_neg (by omega), gd_in (by omega) (by omega), clampN (by omega), b2 b hb0, w1, bd_s, gd_in (by omega) (by omega), b3 b hb0, hP1, w2, bd_s, nI_1, bs10_and]
    exact ih (b + 1) n (by omega) (by omega)
theorem C_stood {σ : Mem} {q q2 : Nat} {A : AS} (ok : AOK A) (hC : CSq σ q q2 A) {i : Nat} (hi : i < (aB A).2.1) : fX5_mayHaveStood σ 0 (nI i) = some (nI (stS A i)) := by
  have o1 := ok.2.2.2.2.2.2.1
  have e := C_stood_l ok hC hi (aB A).1 0 FU (by omega) (by show _ < 1000; omega)
  have z : bs10 (stB A i 0) = 1023 := bs10_1
  rw [z] at e
  exact e
theorem M_stood16 {τ : Mem} {A : AS} (ok : AOK A) (hM : MS τ A) {i w : Nat} (hi : i < (aB A).2.1) (hw : w < 10) (K : Int32 → Int32 → Int32 → Option Int32) (x2 : Int32) : ∀ (d b n : Nat), b + d = (aB A).1 → d < n → fX6_stoodAt_16 K τ 0 n (nI i) x2 (nI w) (nI (b2n (stB A i b w))) (nI b) = if stB A i (aB A).1 w = true then K (nI i) (x2 ||| (nI 1 <<< (nI w &&& nI 31))) (nI (w + 1)) else K (nI i) (x2 ||| nI 0) (nI (w + 1)) := by
  obtain ⟨g1, g2, g3, g4⟩ := hM.2.2.2.2.2.1
  obtain ⟨o1, o2, o3, o4⟩ := ok.2.2.2.2.2.2
  intro d
  induction d with
  | zero =>
    intro b n hb hn
    obtain ⟨n, rfl⟩ : ∃ m, n = m + 1 := ⟨n - 1, by omega⟩
    rw [fX6_stoodAt_16.eq_2, g1, iteLE (by omega) (by omega), if_pos (by omega), show b = (aB A).1 by omega, nI_1]
    cases stB A i (aB A).1 w
    · rfl
    · rw [if_neg (show ¬ nI (b2n true) = 0 by decide), if_pos rfl]; rfl
  | succ d ih =>
    intro b n hb hn
    obtain ⟨n, rfl⟩ : ∃ m, n = m + 1 := ⟨n - 1, by omega⟩
    have hb0 : b < (aB A).1 := by omega
    have h5 := (o2 (by omega)).2
    have hcp := cpw_le ok.1 (o3 b hb0) (show w ≤ 10 by omega)
    have hc := o4 b hb0 i hi
    have z := ih (b + 1) n (by omega) (by omega)
    rw [fX6_stoodAt_16.eq_2, g1, iteLE (by omega) (by omega), if_neg (by omega), nI_1, gd_in (by omega) (by omega), clampN (by omega), g3 b hb0, M_madeOf hM.1 ok.1 (o3 b hb0) (by omega), bd_s, show (5 : Int32) = nI 5 from rfl, pk_mul, nI_add, gd_in (by omega) (by omega), clampN (by omega), g4 b hb0 i hi, iteE (by omega) (by omega), ← z]
    show _ = fX6_stoodAt_16 K τ 0 n (nI i) x2 (nI w) (nI (b2n (stB A i b w && decide (cpw (aI A) ((aB A).2.2.2 b) w = (aB A).2.2.1 b i)))) (nI (b + 1))
    cases stB A i b w
    · rfl
    · rw [if_neg (show ¬ nI (b2n true) = 0 by decide), Bool.true_and]
      by_cases e : cpw (aI A) ((aB A).2.2.2 b) w = (aB A).2.2.1 b i
      · rw [if_pos e, decide_eq_true e]; rfl
      · rw [if_neg e, decide_eq_false e]; rfl
theorem M_stood_l {τ : Mem} {A : AS} (ok : AOK A) (hM : MS τ A) {i : Nat} (hi : i < (aB A).2.1) : ∀ (d w n : Nat), w + d = 10 → d < n → fX6_stoodAt_4 τ 0 n (nI i) (nI (bs10 (fun j => decide (j < w) && stB A i (aB A).1 j))) (nI w) = some (nI (stS A i)) := by
  have o1 := ok.2.2.2.2.2.2.1
  intro d
  induction d with
  | zero =>
    intro w n hw hn
    obtain ⟨n, rfl⟩ : ∃ m, n = m + 1 := ⟨n - 1, by omega⟩
    rw [fX6_stoodAt_4.eq_2, show (10 : Int32) = nI 10 from rfl, iteLE (by omega) (by omega), if_pos (by omega)]
    exact congrArg some (congrArg nI (bs10_c (fun j hj => by rw [decide_eq_true (show j < w by omega), Bool.true_and])))
  | succ d ih =>
    intro w n hw hn
    obtain ⟨n, rfl⟩ : ∃ m, n = m + 1 := ⟨n - 1, by omega⟩
    have z := M_stood16 ok hM hi (show w < 10 by omega) (fX6_stoodAt_4 τ 0 n) (nI (bs10 (fun j => decide (j < w) && stB A i (aB A).1 j))) (aB A).1 0 FU (by omega) (by show _ < 1000; omega)
    rw [fX6_stoodAt_4.eq_2, show (10 : Int32) = nI 10 from rfl, iteLE (by omega) (by omega), if_neg (by omega)]
    refine Eq.trans z ?_
    by_cases e : stB A i (aB A).1 w = true
    · rw [if_pos e]
      have eo := bs10_or (fun j => decide (j < w) && stB A i (aB A).1 j) (show w < 10 by omega)
      refine (congrArg (fun z => fX6_stoodAt_4 τ 0 n (nI i) z (nI (w + 1))) (eo.trans (congrArg nI (bs10_c (c := fun j => decide (j < w + 1) && stB A i (aB A).1 j) (fun j hj => ?_))))).trans (ih (w + 1) n (by omega) (by omega))
      by_cases ej : j = w
      · rw [ej, e, decide_eq_true rfl, decide_eq_true (show w < w + 1 by omega), Bool.or_true]; rfl
      · rw [decide_eq_false ej, Bool.or_false]
        by_cases e2 : j < w
        · rw [decide_eq_true e2, decide_eq_true (show j < w + 1 by omega)]
        · rw [decide_eq_false e2, decide_eq_false (show ¬ j < w + 1 by omega)]
    · rw [if_neg e, or0]
      refine (congrArg (fun z => fX6_stoodAt_4 τ 0 n (nI i) (nI z) (nI (w + 1))) (bs10_c (c := fun j => decide (j < w + 1) && stB A i (aB A).1 j) (fun j hj => ?_))).trans (ih (w + 1) n (by omega) (by omega))
      by_cases ej : j = w
      · rw [ej, (Bool.not_eq_true _).mp e, Bool.and_false, Bool.and_false]
      · by_cases e2 : j < w
        · rw [decide_eq_true e2, decide_eq_true (show j < w + 1 by omega)]
        · rw [decide_eq_false e2, decide_eq_false (show ¬ j < w + 1 by omega)]
theorem M_stood {τ : Mem} {A : AS} (ok : AOK A) (hM : MS τ A) {i : Nat} (hi : i < (aB A).2.1) : fX6_stoodAt τ 0 (nI i) = some (nI (stS A i)) := by
  have e := M_stood_l ok hM hi 10 0 FU (by omega) (by decide)
  have z : bs10 (fun j => decide (j < 0) && stB A i (aB A).1 j) = 0 := (bs10_c (c := fun _ => false) (fun j _ => by rw [decide_eq_false (Nat.not_lt_zero j), Bool.false_and])).trans bs10_0
  rw [z] at e
  exact e
/-- how long the brown copies are, 0 for none -/
def bL (A : AS) : Nat := if (aB A).1 = 0 then 0 else (aB A).2.1
theorem bL_le {A : AS} (ok : AOK A) : bL A ≤ 5 := by
  have o2 := ok.2.2.2.2.2.2.2.1
  unfold bL
  split
  · omega
  · exact (o2 (by omega)).2
theorem bL_lt {A : AS} {i : Nat} (h : i < bL A) : i < (aB A).2.1 := by
  unfold bL at h
  split at h
  · omega
  · exact h
theorem C_bL {σ : Mem} {q q2 : Nat} {A : AS} (ok : AOK A) (hC : CSq σ q q2 A) : fX5_brownLength σ 0 = some (nI (bL A)) := by
  obtain ⟨b1, b2, b3⟩ := hC.2.2.2.2.2.2.1
  obtain ⟨o1, o2, o3, o4⟩ := ok.2.2.2.2.2.2
  unfold fX5_brownLength bL
  rw [b1, l0, iteE (by omega) (by omega)]
  by_cases e : (aB A).1 = 0
  · rw [if_pos e, if_pos e]
  · rw [if_neg e, if_neg e, gd_in (by decide) (by decide), clampN (by decide), b2 0 (by omega), lenOf (o4 0 (by omega)) (o2 (by omega)).2, bd_s]
theorem M_isCop {τ : Mem} {A : AS} (ok : AOK A) (hM : MS τ A) (x : Int32) : (x < 0 ∨ nI (bL A) ≤ x) ∧ fX6_isCopied τ 0 x = some 0 ∨ ∃ i, i < bL A ∧ x = nI i ∧ fX6_isCopied τ 0 x = some 1 := by
  obtain ⟨g1, g2, g3, g4⟩ := hM.2.2.2.2.2.1
  obtain ⟨o1, o2, o3, o4⟩ := ok.2.2.2.2.2.2
  unfold fX6_isCopied
  rw [g1]
  by_cases e : (aB A).1 = 0
  · refine Or.inl ⟨?_, ?_⟩
    · unfold bL
      rw [if_pos e]
      exact (Int32.lt_or_le x 0)
    · rw [e, if_pos (by decide)]
  · have eL : bL A = (aB A).2.1 := if_neg e
    have h5 := (o2 (by omega)).2
    have e3 : ¬ nI (aB A).1 ≤ 0 := by rw [l0, leN (by omega) (by omega)]; omega
    rw [if_neg e3, g2 (by omega), eL]
    rcases ix3 x (n := (aB A).2.1) (by omega) with hx | ⟨i, hi, rfl⟩
    · exact Or.inl ⟨hx, by rw [in_no (by omega) hx, bd_s]; rfl⟩
    · exact Or.inr ⟨i, hi, rfl, by rw [in_yes (by omega) hi, bd_s]; rfl⟩
theorem op_stood {σ τ : Mem} (h : Rel σ τ) (x1 : Int32) : ∃ (r : Int32), fX5_stood σ 0 x1 = some r ∧ fX6_stood τ 0 x1 = some r := by
  obtain ⟨A, q, q2, ok, hC, hM⟩ := id h
  have h5 := bL_le ok
  unfold fX5_stood fX6_stood
  rw [C_bL ok hC, bd_s]
  rcases M_isCop ok hM x1 with ⟨hx, e⟩ | ⟨i, hi, rfl, e⟩
  · refine ⟨-1, ?_, by rw [e]; rfl⟩
    by_cases e0 : x1 < 0
    · exact if_pos e0
    · rw [if_neg e0, if_neg]
      rcases hx with hx | hx
      · exact absurd hx e0
      · exact Int32.not_lt.mpr hx
  · refine ⟨nI (stS A i), ?_, ?_⟩
    · rw [l0, iteL (by omega) (by omega), if_neg (by omega), iteL (by omega) (by omega), if_pos hi, C_stood ok hC (bL_lt hi), bd_s]
    · rw [e, bd_s, if_neg (by decide), M_stood ok hM (bL_lt hi), bd_s]
def prodR (f : Nat → Nat) : Nat → Nat → Nat
  | _, 0 => 1
  | i, d + 1 => f i * prodR f (i + 1) d
theorem prodR_0 {f : Nat → Nat} : ∀ {d i : Nat} {j : Nat}, i ≤ j → j < i + d → f j = 0 → prodR f i d = 0
  | 0, i, j, h1, h2, _ => absurd h2 (by omega)
  | d + 1, i, j, h1, h2, h3 => by
    unfold prodR
    by_cases e : j = i
    · rw [← e, h3, Nat.zero_mul]
    · rw [prodR_0 (show i + 1 ≤ j by omega) (by omega) h3, Nat.mul_zero]
theorem stS_le (A : AS) (i : Nat) : stS A i ≤ 1023 := bs10_lt _
theorem C_poss_l {σ : Mem} {q q2 : Nat} {A : AS} (ok : AOK A) (hC : CSq σ q q2 A) : ∀ (d i n a : Nat), i + d = bL A → d < n → fX5_possibleLetters_15 σ 0 n (nI a) (nI i) = some (nI (a * prodR (fun i => pc10 (stS A i)) i d)) := by
  have h5 := bL_le ok
  intro d
  induction d with
  | zero =>
    intro i n a hi hn
    obtain ⟨n, rfl⟩ : ∃ m, n = m + 1 := ⟨n - 1, by omega⟩
    rw [fX5_possibleLetters_15.eq_2, C_bL ok hC, bd_s, iteLE (by omega) (by omega), if_pos (by omega)]
    exact congrArg some (congrArg nI (Nat.mul_one a).symm)
  | succ d ih =>
    intro i n a hi hn
    obtain ⟨n, rfl⟩ : ∃ m, n = m + 1 := ⟨n - 1, by omega⟩
    rw [fX5_possibleLetters_15.eq_2, C_bL ok hC, bd_s, iteLE (by omega) (by omega), if_neg (by omega), C_stood ok hC (bL_lt (show i < bL A by omega)), bd_s, pcC (stS_le A i), bd_s, pk_mul, nI_1, ih (i + 1) n _ (by omega) (by omega), Nat.mul_assoc]
    rfl
theorem M_ways_l {τ : Mem} {A : AS} (ok : AOK A) (hM : MS τ A) : ∀ (d i n a : Nat), i + d = bL A → d < n → fX6_ways_15 τ 0 n (nI a) (nI i) = some (nI (a * prodR (fun i => pc10 (stS A i)) i d)) := by
  have h5 := bL_le ok
  intro d
  induction d with
  | zero =>
    intro i n a hi hn
    obtain ⟨n, rfl⟩ : ∃ m, n = m + 1 := ⟨n - 1, by omega⟩
    have e : fX6_isCopied τ 0 (nI i) = some 0 := by
      rcases M_isCop ok hM (nI i) with ⟨_, e⟩ | ⟨i', hi', e', _⟩
      · exact e
      · rw [eqN (by omega) (by omega)] at e'; omega
    rw [fX6_ways_15.eq_2, e, bd_s, if_pos rfl]
    exact congrArg some (congrArg nI (Nat.mul_one a).symm)
  | succ d ih =>
    intro i n a hi hn
    obtain ⟨n, rfl⟩ : ∃ m, n = m + 1 := ⟨n - 1, by omega⟩
    have e : fX6_isCopied τ 0 (nI i) = some 1 := by
      rcases M_isCop ok hM (nI i) with ⟨hx, _⟩ | ⟨i', hi', e', e⟩
      · rw [l0, ltN (by omega) (by omega), leN (by omega) (by omega)] at hx; omega
      · exact e
    rw [fX6_ways_15.eq_2, e, bd_s, if_neg (by decide), M_stood ok hM (bL_lt (show i < bL A by omega)), bd_s, pcM (stS_le A i), bd_s, pk_mul, nI_1, ih (i + 1) n _ (by omega) (by omega), Nat.mul_assoc]
    rfl
def waysN (A : AS) : Nat := if (aB A).1 = 0 then 0 else prodR (fun i => pc10 (stS A i)) 0 (bL A)
theorem C_poss {σ : Mem} {q q2 : Nat} {A : AS} (ok : AOK A) (hC : CSq σ q q2 A) : fX5_possibleLetters σ 0 = some (nI (waysN A)) := by
  have h5 := bL_le ok
  have o1 := ok.2.2.2.2.2.2.1
  have b1 := hC.2.2.2.2.2.2.1.1
  unfold fX5_possibleLetters waysN
  rw [b1, l0, iteE (by omega) (by omega)]
  by_cases e : (aB A).1 = 0
  · rw [if_pos e, if_pos e, C_poss_l ok hC (bL A) 0 FU 0 (by omega) (by show _ < 1000; omega), Nat.zero_mul]
  · rw [if_neg e, if_neg e, l1, C_poss_l ok hC (bL A) 0 FU 1 (by omega) (by show _ < 1000; omega), Nat.one_mul]
theorem M_ways {τ : Mem} {A : AS} (ok : AOK A) (hM : MS τ A) : fX6_ways τ 0 = some (nI (waysN A)) := by
  have h5 := bL_le ok
  have o1 := ok.2.2.2.2.2.2.1
  have b1 := hM.2.2.2.2.2.1.1
  unfold fX6_ways waysN
  rw [b1, l0, iteLE (by omega) (by omega)]
  by_cases e : (aB A).1 = 0
  · rw [if_pos (by omega), if_pos e, M_ways_l ok hM (bL A) 0 FU 0 (by omega) (by show _ < 1000; omega), Nat.zero_mul]
  · rw [if_neg (by omega), if_neg e, l1, M_ways_l ok hM (bL A) 0 FU 1 (by omega) (by show _ < 1000; omega), Nat.one_mul]
theorem sure_k : ∀ u : Fin 1024, pc10 u.val = 1 → fJ6_numberOfTrailingZeros_0f7a4 (nI u.val) = fX6_sureOf 0 (nI u.val) ∧ (fX6_sureOf 0 (nI u.val)).isSome = true := by decide +kernel
theorem pc10_le (u : Nat) : pc10 u ≤ 10 := by unfold pc10; omega
theorem prodR_le {f : Nat → Nat} (hf : ∀ i, f i ≤ 10) : ∀ (d i : Nat), prodR f i d ≤ 10 ^ d
  | 0, _ => Nat.le_refl 1
  | d + 1, i => by
    have h1 := hf i
    have h2 := prodR_le hf d (i + 1)
    show f i * prodR f (i + 1) d ≤ 10 ^ (d + 1)
    rw [Nat.pow_succ, Nat.mul_comm (10 ^ d)]
    exact Nat.mul_le_mul h1 h2
theorem waysN_le {A : AS} (ok : AOK A) : waysN A ≤ 100000 := by
  unfold waysN
  split
  · omega
  · have h := prodR_le (f := fun i => pc10 (stS A i)) (fun i => pc10_le _) (bL A) 0
    have : 10 ^ bL A ≤ 10 ^ 5 := Nat.pow_le_pow_right (by decide) (bL_le ok)
    have e5 : (10 : Nat) ^ 5 = 100000 := by decide
    omega
theorem op_letters {σ τ : Mem} (h : Rel σ τ) (x1 : Int32) : ∃ (r : Int32), fX5_letters σ 0 x1 = some r ∧ fX6_letters τ 0 x1 = some r := by
  obtain ⟨A, q, q2, ok, hC, hM⟩ := id h
  have h5 := bL_le ok
  have hw := waysN_le ok
  unfold fX5_letters fX6_letters
  rw [C_poss ok hC, M_ways ok hM, C_bL ok hC, bd_s, bd_s, bd_s]
  by_cases e9 : x1 = -9
  · exact ⟨nI (waysN A), by rw [if_pos e9], by rw [if_pos e9]⟩
  rw [if_neg e9, if_neg e9]
  rcases M_isCop ok hM x1 with ⟨hx, e⟩ | ⟨i, hi, rfl, e⟩
  · refine ⟨-1, ?_, by rw [e]; rfl⟩
    by_cases e0 : x1 < 0
    · exact if_pos e0
    · rw [if_neg e0, if_neg]
      rcases hx with hx | hx
      · exact absurd hx e0
      · exact Int32.not_lt.mpr hx
  · rw [e, bd_s, if_neg (show ¬ (1 : Int32) = 0 by decide), M_stood ok hM (bL_lt hi), bd_s, bd_s, l0, iteL (by omega) (by omega), if_neg (by omega), iteL (by omega) (by omega), if_pos hi, C_stood ok hC (bL_lt hi), bd_s, pcC (stS_le A i), pcM (stS_le A i), bd_s, bd_s, iteE (by omega) (by omega), iteE (by omega) (by omega)]
    have hp := pc10_le (stS A i)
    by_cases e0 : waysN A = 0
    · exact ⟨-9, by rw [if_pos e0], by rw [if_pos e0]⟩
    · rw [if_neg e0, if_neg e0, l1, iteE (by omega) (by omega), iteLE (by omega) (by omega)]
      have hp0 : pc10 (stS A i) ≠ 0 := fun z => e0 (by
        unfold waysN
        split
        · rfl
        · exact prodR_0 (Nat.zero_le i) (by omega) z)
      by_cases e1 : pc10 (stS A i) = 1
      · have hs := stS_le A i
        obtain ⟨k1, k2⟩ := sure_k ⟨stS A i, by omega⟩ e1
        obtain ⟨r, hr⟩ := Option.isSome_iff_exists.mp k2
        have k1 : fJ6_numberOfTrailingZeros_0f7a4 (nI (stS A i)) = fX6_sureOf 0 (nI (stS A i)) := k1
        have hr : fX6_sureOf 0 (nI (stS A i)) = some r := hr
        exact ⟨r, by rw [if_pos e1, k1, hr, bd_s], by rw [if_pos (by omega), hr, bd_s]⟩
      · exact ⟨-5, by rw [if_neg e1], by rw [if_neg (by omega)]⟩
