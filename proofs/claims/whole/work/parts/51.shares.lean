/-! longs that are small naturals; shares in least terms -/
def nQ (n : Nat) : Int64 := Int64.ofNat n
theorem nQ_toInt {n : Nat} (h : n < 9223372036854775808) : (nQ n).toInt = n := Int64.toInt_ofNat_of_lt h
theorem nQ_add (a b : Nat) : nQ a + nQ b = nQ (a + b) := (Int64.ofNat_add a b).symm
theorem nQ_mul (a b : Nat) : nQ a * nQ b = nQ (a * b) := (Int64.ofNat_mul a b).symm
theorem nQ_sub {a b : Nat} (h : b ≤ a) : nQ a - nQ b = nQ (a - b) := by
  obtain ⟨c, rfl⟩ : ∃ c, a = c + b := ⟨a - b, by omega⟩
  rw [← nQ_add, Int64.add_sub_cancel, Nat.add_sub_cancel]
theorem nQ_div {a d : Nat} (ha : a < 9223372036854775808) (h0 : 0 < d) (hd : d < 9223372036854775808) : nQ a / nQ d = nQ (a / d) := by
  apply Int64.toInt_inj.mp
  rw [lg_ldiv_nonneg (by rw [nQ_toInt ha]; omega) (by rw [nQ_toInt hd]; omega), nQ_toInt ha, nQ_toInt hd, nQ_toInt (Nat.lt_of_le_of_lt (Nat.div_le_self a d) ha)]
  first | rfl | exact (Int.natCast_ediv _ _).symm
theorem nQ_rem {a d : Nat} (ha : a < 9223372036854775808) (h0 : 0 < d) (hd : d < 9223372036854775808) : nQ a - nQ a / nQ d * nQ d = nQ (a % d) := by
  rw [nQ_div ha h0 hd, nQ_mul, nQ_sub (Nat.div_mul_le_self a d)]
  exact congrArg nQ (by have := Nat.div_add_mod' a d; omega)
theorem nQ_eq {a b : Nat} (ha : a < 9223372036854775808) (hb : b < 9223372036854775808) : (nQ a = nQ b) = (a = b) := by
  refine propext ⟨fun e => ?_, fun e => by rw [e]⟩
  have := congrArg Int64.toInt e
  rw [nQ_toInt ha, nQ_toInt hb] at this
  omega
theorem toQ {a : Nat} (h : a < 2147483648) : (nI a).toInt64 = nQ a := by
  apply Int64.toInt_inj.mp
  rw [Int32.toInt_toInt64, nI_toInt h, nQ_toInt (by omega)]
theorem q0 : (0 : Int64) = nQ 0 := rfl
theorem q1 : (1 : Int64) = nQ 1 := rfl
theorem cmp_0 {a : Nat} (h : a < 9223372036854775808) : lg_cmp (nQ a) 0 = if a = 0 then 0 else 1 := by
  unfold lg_cmp
  rw [q0]
  by_cases e : a = 0
  · rw [if_pos e, e, if_neg, if_pos rfl]
    show ¬ nQ 0 < nQ 0
    exact Int64.lt_irrefl
  · rw [if_neg e, if_pos]
    show nQ 0 < nQ a
    rw [Int64.lt_iff_toInt_lt, nQ_toInt h, nQ_toInt (by omega)]
    omega
theorem gcd_st (a b : Nat) : Nat.gcd a b = Nat.gcd b (a % b) := (Nat.gcd_comm a b).trans ((Nat.gcd_rec b a).trans (Nat.gcd_comm _ _))
theorem mod_half {b c : Nat} (h0 : 0 < c) (h : c < b) : 2 * (b % c) < b := by
  have h1 := Nat.mod_lt b h0
  have h2 : b % c ≤ b - c := by rw [Nat.mod_eq_sub_mod (Nat.le_of_lt h)]; exact Nat.mod_le _ _
  omega
theorem C_euc (x0 x1 x2 : Int32) : ∀ (k a b s n : Nat), b < 2 ^ k → a < 2147483648 → b < 2147483648 → s + 2 * k ≤ 63 → 2 * k < n → fX5_inLeastTerms_8 n x0 x1 x2 (nI a) (nI b) (nI s) = fX5_inLeastTerms_39 x0 x1 x2 (nI (Nat.gcd a b)) := by
  have fin : ∀ (a s n : Nat), s ≤ 63 → fX5_inLeastTerms_8 (n + 1) x0 x1 x2 (nI a) (nI 0) (nI s) = fX5_inLeastTerms_39 x0 x1 x2 (nI (Nat.gcd a 0)) := fun a s n hs => by
    rw [fX5_inLeastTerms_8.eq_2, show (64 : Int32) = nI 64 from rfl, iteLE (by omega) (by omega), if_neg (by omega), if_pos (show nI 0 = 0 from rfl), Nat.gcd_zero_right]
  have step : ∀ (a b s n : Nat), a < 2147483648 → b < 2147483648 → 0 < b → s ≤ 63 → fX5_inLeastTerms_8 (n + 1) x0 x1 x2 (nI a) (nI b) (nI s) = fX5_inLeastTerms_8 n x0 x1 x2 (nI b) (nI (a % b)) (nI (s + 1)) := fun a b s n ha hb hb0 hs => by
    have hb' : ¬ nI b = 0 := by rw [l0, eqN (by omega) (by omega)]; omega
    rw [fX5_inLeastTerms_8.eq_2, show (64 : Int32) = nI 64 from rfl, iteLE (by omega) (by omega), if_neg (by omega), if_neg hb', gdT hb', remN ha hb0 hb, nI_1]
  intro k
  induction k with
  | zero =>
    intro a b s n hb ha hb2 hs hn
    obtain ⟨n, rfl⟩ : ∃ m, n = m + 1 := ⟨n - 1, by omega⟩
    have : b = 0 := by rw [Nat.pow_zero] at hb; omega
    subst this
    exact fin a s n (by omega)
  | succ k ih =>
    intro a b s n hb ha hb2 hs hn
    obtain ⟨n, rfl⟩ : ∃ m, n = m + 2 := ⟨n - 2, by omega⟩
    by_cases e : b = 0
    · subst e
      exact fin a s (n + 1) (by omega)
    · rw [step a b s (n + 1) ha hb2 (by omega) (by omega), gcd_st a b]
      have hc := Nat.mod_lt a (show 0 < b by omega)
      by_cases e2 : a % b = 0
      · rw [e2]
        exact fin b (s + 1) n (by omega)
      · have hh := mod_half (show 0 < a % b by omega) hc
        rw [step b (a % b) (s + 1) n hb2 (by omega) (by omega) (by omega), gcd_st b (a % b)]
        rw [Nat.pow_succ] at hb
        exact ih (a % b) (b % (a % b)) (s + 2) n (by omega) (by omega) (by omega) (by omega) (by omega)
theorem M_euc (x0 x2 : Int64) (x4 : Int32) : ∀ (k a b n : Nat), b < 2 ^ k → a < 2147483648 → b < 2147483648 → 2 * k < n → fX6_share_6 n x0 x2 x4 (nQ a) (nQ b) = if x4 = 0 then gd (decide (¬ nQ (Nat.gcd a b) = 0)) (some (x0 / nQ (Nat.gcd a b))) else gd (decide (¬ nQ (Nat.gcd a b) = 0)) (some (x2 / nQ (Nat.gcd a b))) := by
  have fin : ∀ (a n : Nat), fX6_share_6 (n + 1) x0 x2 x4 (nQ a) (nQ 0) = if x4 = 0 then gd (decide (¬ nQ (Nat.gcd a 0) = 0)) (some (x0 / nQ (Nat.gcd a 0))) else gd (decide (¬ nQ (Nat.gcd a 0) = 0)) (some (x2 / nQ (Nat.gcd a 0))) := fun a n => by
    rw [fX6_share_6.eq_2, cmp_0 (by decide), if_pos rfl, if_pos (by decide), Nat.gcd_zero_right]
  have step : ∀ (a b n : Nat), a < 2147483648 → b < 2147483648 → 0 < b → fX6_share_6 (n + 1) x0 x2 x4 (nQ a) (nQ b) = fX6_share_6 n x0 x2 x4 (nQ b) (nQ (a % b)) := fun a b n ha hb hb0 => by
    have hb' : ¬ nQ b = 0 := by rw [q0, nQ_eq (by omega) (by omega)]; omega
    rw [fX6_share_6.eq_2, cmp_0 (by omega), if_neg (show ¬ b = 0 by omega), if_neg (by decide), gdT hb', nQ_rem (by omega) hb0 (by omega)]
  intro k
  induction k with
  | zero =>
    intro a b n hb ha hb2 hn
    obtain ⟨n, rfl⟩ : ∃ m, n = m + 1 := ⟨n - 1, by omega⟩
    have : b = 0 := by rw [Nat.pow_zero] at hb; omega
    subst this
    exact fin a n
  | succ k ih =>
    intro a b n hb ha hb2 hn
    obtain ⟨n, rfl⟩ : ∃ m, n = m + 2 := ⟨n - 2, by omega⟩
    by_cases e : b = 0
    · subst e
      exact fin a (n + 1)
    · rw [step a b (n + 1) ha hb2 (by omega), gcd_st a b]
      have hc := Nat.mod_lt a (show 0 < b by omega)
      by_cases e2 : a % b = 0
      · rw [e2]
        exact fin b n
      · have hh := mod_half (show 0 < a % b by omega) hc
        rw [step b (a % b) n hb2 (by omega) (by omega), gcd_st b (a % b)]
        rw [Nat.pow_succ] at hb
        exact ih (a % b) (b % (a % b)) n (by omega) (by omega) (by omega) (by omega)
theorem share_ok {N D : Nat} (hN : N ≤ 1000000) (hD : D ≤ 1000000) (h0 : 0 < D) (x : Int32) : ∃ r, fX5_inLeastTerms (nI N) (nI D) x = some r ∧ fX6_share (nQ N) (nQ D) x = some r.toInt64 := by
  have e20 : (2 : Nat) ^ 20 = 1048576 := by decide
  have c := C_euc (nI N) (nI D) x 20 D N 0 FU (by omega) (by omega) (by omega) (by omega) (by decide)
  have m := M_euc (nQ N) (nQ D) x 20 N D FU (by omega) (by omega) (by omega) (by decide)
  have hg : 0 < Nat.gcd D N := Nat.gcd_pos_of_pos_left N h0
  have hg2 : Nat.gcd D N ≤ 1000000 := Nat.le_trans (Nat.gcd_le_left N h0) hD
  rw [Nat.gcd_comm N D] at m
  have g1 : ¬ nI (Nat.gcd D N) = 0 := by rw [l0, eqN (by omega) (by omega)]; omega
  have g2 : ¬ nQ (Nat.gcd D N) = 0 := by rw [q0, nQ_eq (by omega) (by omega)]; omega
  have d1 := Nat.div_le_self N (Nat.gcd D N)
  have d2 := Nat.div_le_self D (Nat.gcd D N)
  unfold fX5_inLeastTerms_39 at c
  rw [if_neg g1, gdT g1, gdT g1, pk_div (by omega) hg (by omega), pk_div (by omega) hg (by omega)] at c
  rw [gdT g2, gdT g2, nQ_div (by omega) hg (by omega), nQ_div (by omega) hg (by omega)] at m
  by_cases e : x = 0
  · rw [if_pos e] at c m
    exact ⟨nI (N / Nat.gcd D N), c, by rw [toQ (by omega)]; exact m⟩
  · rw [if_neg e] at c m
    exact ⟨nI (D / Nat.gcd D N), c, by rw [toQ (by omega)]; exact m⟩
/-! clean -/
def clN (A : AS) (r t : Nat) : Nat := if vR (aN A) t = r then 10 - iX (aI A) t else 1
def clD (A : AS) (r t : Nat) : Nat := if vR (aN A) t = r then 10 else 1
theorem clN_le (A : AS) (r t : Nat) : clN A r t ≤ 10 := by unfold clN; split <;> omega
theorem clD_le (A : AS) (r t : Nat) : clD A r t ≤ 10 := by unfold clD; split <;> omega
theorem clD_pos (A : AS) (r : Nat) : ∀ (d i : Nat), 0 < prodR (clD A r) i d
  | 0, _ => Nat.one_pos
  | d + 1, i => by
    have := clD_pos A r d (i + 1)
    show 0 < clD A r i * prodR (clD A r) (i + 1) d
    refine Nat.mul_pos ?_ this
    unfold clD; split <;> omega
theorem ten_sub {x : Nat} (h : x ≤ 10) : (10 : Int32) - nI x = nI (10 - x) := pk_sub h
theorem C_clean_l {σ : Mem} {q q2 : Nat} {A : AS} (ok : AOK A) (hC : CSq σ q q2 A) {r : Nat} (hr : r < 3) (x2 : Int32) : ∀ (d i n a b : Nat), i + d = iT (aI A) → d < n → fX5_clean_32 σ 0 n (nI r) x2 (nI a) (nI b) (nI i) = bd (fX5_inLeastTerms (nI (a * prodR (clN A r) i d)) (nI (b * prodR (clD A r) i d)) x2) (fun r14 => some (r14.toInt64)) := by
  have hP1 : mP σ 0 1 = q := hC.1.2.2.2.2.1
  have hP3 : mP σ 0 3 = 4 := hC.1.2.1
  have hT := ok.1.2.2.2.1
  intro d
  induction d with
  | zero =>
    intro i n a b hi hn
    obtain ⟨n, rfl⟩ : ∃ m, n = m + 1 := ⟨n - 1, by omega⟩
    rw [fX5_clean_32.eq_2, hP1, hC.2.1.2.2.2.1, iteLE (by omega) (by omega), if_pos (by omega)]
    unfold prodR
    rw [Nat.mul_one, Nat.mul_one]
  | succ d ih =>
    intro i n a b hi hn
    obtain ⟨n, rfl⟩ : ∃ m, n = m + 1 := ⟨n - 1, by omega⟩
    have hx := (ok.1.2.2.2.2.2.1 i (by omega)).2
    have eN : prodR (clN A r) i (d + 1) = clN A r i * prodR (clN A r) (i + 1) d := rfl
    have eD : prodR (clD A r) i (d + 1) = clD A r i * prodR (clD A r) (i + 1) d := rfl
    have hb := bs6_bit (fun t => decide (vR (aN A) t = r)) (show i < 6 by omega)
    rw [fX5_clean_32.eq_2, hP1, hC.2.1.2.2.2.1, iteLE (by omega) (by omega), if_neg (by omega), gd_in hr (by decide), clampN (by omega), hP3, hC.2.2.2.1.2.2.2.2.1 r hr, hb, gd_in (show i < 6 by omega) (by decide), clampN (by omega), hC.2.1.2.2.2.2.2.2.1 i (by omega), ten_sub hx, pk_mul, show (10 : Int32) = nI 10 from rfl, pk_mul, nI_1, ih (i + 1) n _ _ (by omega) (by omega), ih (i + 1) n _ _ (by omega) (by omega), eN, eD]
    by_cases e : vR (aN A) i = r
    · have e1 : clN A r i = 10 - iX (aI A) i := if_pos e
      have e2 : clD A r i = 10 := if_pos e
      rw [decide_eq_true e, if_pos rfl, if_neg (by decide), e1, e2, Nat.mul_assoc, Nat.mul_assoc]
    · have e1 : clN A r i = 1 := if_neg e
      have e2 : clD A r i = 1 := if_neg e
      rw [decide_eq_false e, if_neg (show ¬ false = true by decide), if_pos rfl, e1, e2, Nat.one_mul, Nat.one_mul]
theorem M_clean_l {τ : Mem} {A : AS} (ok : AOK A) (hM : MS τ A) {r : Nat} (hr : r < 3) (x2 : Int32) : ∀ (d i n a b : Nat), i + d = iT (aI A) → d < n → fX6_clean_29 τ 0 n (nI r) x2 (nQ a) (nQ b) (nI i) = bd (fX6_share (nQ (a * prodR (clN A r) i d)) (nQ (b * prodR (clD A r) i d)) x2) (fun r9 => some r9) := by
  have hT := ok.1.2.2.2.1
  intro d
  induction d with
  | zero =>
    intro i n a b hi hn
    obtain ⟨n, rfl⟩ : ∃ m, n = m + 1 := ⟨n - 1, by omega⟩
    rw [fX6_clean_29.eq_2, hM.1.2.2.2.1, iteLE (by omega) (by omega), if_pos (by omega)]
    unfold prodR
    rw [Nat.mul_one, Nat.mul_one]
  | succ d ih =>
    intro i n a b hi hn
    obtain ⟨n, rfl⟩ : ∃ m, n = m + 1 := ⟨n - 1, by omega⟩
    have hx := (ok.1.2.2.2.2.2.1 i (by omega)).2
    have eN : prodR (clN A r) i (d + 1) = clN A r i * prodR (clN A r) (i + 1) d := rfl
    have eD : prodR (clD A r) i (d + 1) = clD A r i * prodR (clD A r) (i + 1) d := rfl
    rw [fX6_clean_29.eq_2, hM.1.2.2.2.1, iteLE (by omega) (by omega), if_neg (by omega), show (2 : Int32) = nI 2 from rfl, nI_add, pk_mul, l1, nI_add, gd_in (show 2 + i < 26 by omega) (by decide), clampN (by omega), hM.2.2.1.2.2.1 i (by omega), gd_in (show 2 * i + 1 < 12 by omega) (by decide), clampN (by omega), hM.1.2.2.2.2.2.2.1 i (by omega), ten_sub hx, toQ (by omega), nQ_mul, show (10 : Int64) = nQ 10 from rfl, nQ_mul, eN, eD]
    have z1 := ih (i + 1) n (a * (10 - iX (aI A) i)) (b * 10) (by omega) (by omega)
    have z2 := ih (i + 1) n a b (by omega) (by omega)
    by_cases e : vR (aN A) i = r
    · have e1 : clN A r i = 10 - iX (aI A) i := if_pos e
      have e2 : clD A r i = 10 := if_pos e
      rw [if_pos (by rw [row_eq hr]; exact e), e1, e2, ← Nat.mul_assoc, ← Nat.mul_assoc]
      rw [nI_add]; exact z1
    · have e1 : clN A r i = 1 := if_neg e
      have e2 : clD A r i = 1 := if_neg e
      rw [if_neg (by rw [row_eq hr]; exact e), e1, e2, Nat.one_mul, Nat.one_mul]
      rw [nI_add]; exact z2
theorem op_clean {σ τ : Mem} (h : Rel σ τ) (x1 : Int32) (x2 : Int32) : ∃ (r : Int64), fX5_clean σ 0 x1 x2 = some r ∧ fX6_clean τ 0 x1 x2 = some r := by
  obtain ⟨A, q, q2, ok, hC, hM⟩ := id h
  have hP1 : mP σ 0 1 = q := hC.1.2.2.2.2.1
  have hI := hC.2.1
  have hR := ok.1.2.1
  have hT := ok.1.2.2.2.1
  rcases ix3 x1 (n := iR (aI A)) (by omega) with hx | ⟨r, hr, rfl⟩
  · refine ⟨-1, ?_, ?_⟩
    · unfold fX5_clean; rw [hP1, C_hasR_no hI hx]; rfl
    · unfold fX6_clean; rw [M_isR_no hM.1 ok.1 hx]; rfl
  unfold fX5_clean fX6_clean
  rw [hP1, C_hasR_yes hI ok.1 hr, M_isR_yes hM.1 ok.1 hr, bd_s, bd_s, if_neg (show ¬ (1 : Int32) = 0 by decide), if_neg (show ¬ (1 : Int32) = 0 by decide)]
  rcases pk_rng x2 (a := 0) (b := 1) (by decide) (by decide) with hy | ⟨y, -, hy, rfl⟩
  · refine ⟨-1, ite3 hy, ?_⟩
    rw [l0, l1, inr_no hy]
    rfl
  · have pN := prodR_le (f := clN A r) (clN_le A r) (iT (aI A)) 0
    have pD := prodR_le (f := clD A r) (clD_le A r) (iT (aI A)) 0
    have p6 : 10 ^ iT (aI A) ≤ 10 ^ 6 := Nat.pow_le_pow_right (by decide) hT
    have e6 : (10 : Nat) ^ 6 = 1000000 := by decide
    obtain ⟨v, e1, e2⟩ := share_ok (N := prodR (clN A r) 0 (iT (aI A))) (D := prodR (clD A r) 0 (iT (aI A))) (by omega) (by omega) (clD_pos A r _ _) (nI y)
    have c := C_clean_l ok hC (show r < 3 by omega) (nI y) (iT (aI A)) 0 FU 1 1 (by omega) (by show _ < 1000; omega)
    have m := M_clean_l ok hM (show r < 3 by omega) (nI y) (iT (aI A)) 0 FU 1 1 (by omega) (by show _ < 1000; omega)
    rw [Nat.one_mul, Nat.one_mul] at c m
    rw [e1, bd_s] at c
    rw [e2, bd_s] at m
    have y0 : ¬ nI y < 0 := by rw [l0, ltN (by omega) (by omega)]; omega
    have y1 : nI y ≤ 1 := by rw [l1, leN (by omega) (by omega)]; omega
    refine ⟨v.toInt64, ?_, ?_⟩
    · rw [if_neg y0, if_pos y1]
      exact c
    · have ein : fX6_in (nI y) 0 1 = some 1 := inr_yes (Nat.zero_le y) hy (by decide)
      rw [ein, bd_s, if_neg (show ¬ (1 : Int32) = 0 by decide)]
      exact m
