/-! a row by days: those there, since when, vinegar, days of sailing -/
abbrev RV : Type := (Nat → Bool) × Nat × Nat × (Nat → Nat)
def sailS (I : IV) (d : Nat) (x : RV) : RV := if x.2.1 + iH I ≤ d ∧ d % iB I = 0 then (fun _ => false, x.2.1, x.2.2.1, fun t => if x.1 t = true then d else x.2.2.2 t) else x
def arrB (I : IV) (Mk : Nat → Bool) (d t : Nat) : Bool := Mk t && decide (iC I t = d)
def anyB (p : Nat → Bool) : Bool := p 0 || p 1 || p 2 || p 3 || p 4 || p 5
def arrS (I : IV) (Mk : Nat → Bool) (d : Nat) (x : RV) : RV := if anyB (arrB I Mk d) = true then (fun t => x.1 t || arrB I Mk d t, d, x.2.2.1, x.2.2.2) else x
def vinS (x : RV) : RV := (x.1, x.2.1, x.2.2.1 + vin (ct6 x.1), x.2.2.2)
def preT (I : IV) (Mk : Nat → Bool) : Nat → RV
  | 0 => (fun _ => false, 0, 0, fun _ => 0)
  | d + 1 => sailS I (d + 1) (vinS (arrS I Mk d (preT I Mk d)))
theorem preT_s (I : IV) (Mk : Nat → Bool) (d : Nat) : preT I Mk (d + 1) = sailS I (d + 1) (vinS (arrS I Mk d (preT I Mk d))) := rfl
def bF (I : IV) (x : Nat) : Nat := (x + iB I - 1) / iB I * iB I
theorem bF_spec {I : IV} (ok : IOK I) (x : Nat) : x ≤ bF I x ∧ bF I x < x + iB I ∧ bF I x % iB I = 0 := by
  have hb := ok.2.2.1
  unfold bF
  have h1 := Nat.div_add_mod' (x + iB I - 1) (iB I)
  have h2 := Nat.mod_lt (x + iB I - 1) (show 0 < iB I by omega)
  exact ⟨by omega, by omega, Nat.mul_mod_left _ _⟩
theorem bF_first {I : IV} (ok : IOK I) {x d : Nat} (h1 : x ≤ d) (h2 : d % iB I = 0) : bF I x ≤ d := by
  have hb := ok.2.2.1
  obtain ⟨a1, a2, a3⟩ := bF_spec ok x
  obtain ⟨y, hy⟩ : iB I ∣ bF I x := Nat.dvd_of_mod_eq_zero a3
  obtain ⟨z, hz⟩ : iB I ∣ d := Nat.dvd_of_mod_eq_zero h2
  rcases Nat.lt_or_ge z y with q | q
  · have := Nat.mul_le_mul_left (iB I) (show z + 1 ≤ y from q)
    rw [Nat.mul_succ] at this
    omega
  · have := Nat.mul_le_mul_left (iB I) q
    omega
theorem C_bF {σ : Mem} {q : Nat} {I : IV} (h : IC σ q I) (ok : IOK I) {x : Nat} (hx : x < 100000) : fX1_boatFrom σ q (nI x) = some (nI (bF I x)) := by
  have hb := ok.2.2.1
  have hb0 : ¬ nI (iB I) = 0 := by rw [l0, eqN (by omega) (by omega)]; omega
  unfold fX1_boatFrom bF
  rw [h.2.2.1, l0, iteLE (by omega) (by omega), if_neg (by omega), ← l0, gdT hb0, nI_add, l1, pk_sub (by omega), pk_div (by omega) (by omega) (by omega), pk_mul]
/-- what the days from s on bring, if none comes -/
def jmp (I : IV) (S : Nat → Bool) (s v : Nat) (sl : Nat → Nat) (c : Nat) : RV := if bF I (s + iH I) ≤ c then (fun _ => false, s, v + (bF I (s + iH I) - s) * vin (ct6 S), fun t => if S t = true then bF I (s + iH I) else sl t) else (S, s, v + (c - s) * vin (ct6 S), sl)
theorem vin_none : vin (ct6 (fun _ => false)) = 0 := by decide
theorem jump {I : IV} (ok : IOK I) {Mk : Nat → Bool} {S : Nat → Bool} {s v : Nat} {sl : Nat → Nat} (h0 : arrS I Mk s (preT I Mk s) = (S, s, v, sl)) : ∀ (d : Nat), (∀ e, s < e → e < s + 1 + d → anyB (arrB I Mk e) = false) → preT I Mk (s + 1 + d) = jmp I S s v sl (s + 1 + d) := by
  have hb := ok.2.2.1
  have hh := ok.1
  obtain ⟨b1, b2, b3⟩ := bF_spec ok (s + iH I)
  intro d
  induction d with
  | zero =>
    intro _
    show sailS I (s + 1) (vinS (arrS I Mk s (preT I Mk s))) = jmp I S s v sl (s + 1)
    rw [h0]
    show (if s + iH I ≤ s + 1 ∧ (s + 1) % iB I = 0 then _ else _) = (if bF I (s + iH I) ≤ s + 1 then _ else _)
    by_cases e : s + iH I ≤ s + 1 ∧ (s + 1) % iB I = 0
    · have e2 : bF I (s + iH I) ≤ s + 1 := bF_first ok e.1 e.2
      have e3 : bF I (s + iH I) = s + 1 := by omega
      rw [if_pos e, if_pos e2, e3]
      show (_, s, v + vin (ct6 S), _) = (_, s, v + (s + 1 - s) * vin (ct6 S), _)
      rw [Nat.add_sub_cancel_left, Nat.one_mul]
      rfl
    · have e2 : ¬ bF I (s + iH I) ≤ s + 1 := fun q => by
        have e3 : bF I (s + iH I) = s + 1 := by omega
        exact e ⟨by omega, by rw [← e3]; exact b3⟩
      rw [if_neg e, if_neg e2]
      show (S, s, v + vin (ct6 S), sl) = (S, s, v + (s + 1 - s) * vin (ct6 S), sl)
      rw [Nat.add_sub_cancel_left, Nat.one_mul]
  | succ d ih =>
    intro hno
    have ih := ih (fun e h1 h2 => hno e h1 (by omega))
    have ha : anyB (arrB I Mk (s + 1 + d)) = false := hno (s + 1 + d) (by omega) (by omega)
    have ea : arrS I Mk (s + 1 + d) (preT I Mk (s + 1 + d)) = jmp I S s v sl (s + 1 + d) := by
      unfold arrS
      rw [ha, if_neg (by decide), ih]
    show sailS I (s + 1 + d + 1) (vinS (arrS I Mk (s + 1 + d) (preT I Mk (s + 1 + d)))) = jmp I S s v sl (s + 1 + (d + 1))
    rw [ea, show s + 1 + (d + 1) = s + 1 + d + 1 from rfl]
    unfold jmp
    by_cases e : bF I (s + iH I) ≤ s + 1 + d
    · rw [if_pos e, if_pos (by omega)]
      unfold sailS vinS
      show (if s + iH I ≤ s + 1 + d + 1 ∧ (s + 1 + d + 1) % iB I = 0 then _ else _) = _
      rw [vin_none, Nat.add_zero]
      by_cases e2 : s + iH I ≤ s + 1 + d + 1 ∧ (s + 1 + d + 1) % iB I = 0
      · rw [if_pos e2]
        rfl
      · rw [if_neg e2]
        rfl
    · rw [if_neg e]
      unfold sailS vinS
      show (if s + iH I ≤ s + 1 + d + 1 ∧ (s + 1 + d + 1) % iB I = 0 then _ else _) = _
      have ev : v + (s + 1 + d - s) * vin (ct6 S) + vin (ct6 S) = v + (s + 1 + d + 1 - s) * vin (ct6 S) := by
        rw [show s + 1 + d + 1 - s = (s + 1 + d - s) + 1 by omega, Nat.succ_mul, Nat.add_assoc]
      by_cases e2 : s + iH I ≤ s + 1 + d + 1 ∧ (s + 1 + d + 1) % iB I = 0
      · have e3 : bF I (s + iH I) ≤ s + 1 + d + 1 := bF_first ok e2.1 e2.2
        have e4 : bF I (s + iH I) = s + 1 + d + 1 := by omega
        rw [if_pos e2, if_pos e3, e4]
        show (_, s, v + (s + 1 + d - s) * vin (ct6 S) + vin (ct6 S), _) = (_, s, v + (s + 1 + d + 1 - s) * vin (ct6 S), _)
        rw [ev]
      · have e3 : ¬ bF I (s + iH I) ≤ s + 1 + d + 1 := fun q => by
          have e4 : bF I (s + iH I) = s + 1 + d + 1 := by omega
          exact e2 ⟨by omega, by rw [← e4]; exact b3⟩
        rw [if_neg e2, if_neg e3]
        show (S, s, v + (s + 1 + d - s) * vin (ct6 S) + vin (ct6 S), sl) = _
        rw [ev]
def sdT (I : IV) (Mk : Nat → Bool) (t : Nat) : Nat := (preT I Mk 200).2.2.2 t
def vT (I : IV) (Mk : Nat → Bool) : Nat := (preT I Mk 200).2.2.1
theorem any_f {p : Nat → Bool} (h : anyB p = false) : ∀ t, t < 6 → p t = false := by
  have h := h
  unfold anyB at h
  simp only [Bool.or_eq_false_iff] at h
  obtain ⟨⟨⟨⟨⟨h0, h1⟩, h2⟩, h3⟩, h4⟩, h5⟩ := h
  intro t ht
  match t, ht with
  | 0, _ => exact h0
  | 1, _ => exact h1
  | 2, _ => exact h2
  | 3, _ => exact h3
  | 4, _ => exact h4
  | 5, _ => exact h5
  | n + 6, h => exact absurd h (by omega)
theorem any_n {p : Nat → Bool} (h : ∀ t, t < 6 → p t = false) : anyB p = false := by
  unfold anyB
  rw [h 0 (by decide), h 1 (by decide), h 2 (by decide), h 3 (by decide), h 4 (by decide), h 5 (by decide)]
  rfl
/-- one to one among the first n: all are met -/
theorem pigeon : ∀ (n : Nat) (f : Nat → Nat), (∀ i, i < n → f i < n) → (∀ i j, i < n → j < n → f i = f j → i = j) → ∀ t, t < n → ∃ i, i < n ∧ f i = t
  | 0, _, _, _ => fun t ht => absurd ht (Nat.not_lt_zero t)
  | n + 1, f, h1, h2 => fun t ht => by
    have hn := h1 n (by omega)
    have g1 : ∀ i, i < n → (if f i = n then f n else f i) < n := fun i hi => by
      have hi1 := h1 i (by omega)
      split
      · rename_i e
        have : f n ≠ n := fun e2 => by have := h2 i n (by omega) (by omega) (e.trans e2.symm); omega
        omega
      · omega
    have g2 : ∀ i j, i < n → j < n → (if f i = n then f n else f i) = (if f j = n then f n else f j) → i = j := fun i j hi hj e => by
      by_cases ei : f i = n
      · by_cases ej : f j = n
        · exact h2 i j (by omega) (by omega) (ei.trans ej.symm)
        · rw [if_pos ei, if_neg ej] at e
          have := h2 n j (by omega) (by omega) e
          omega
      · by_cases ej : f j = n
        · rw [if_neg ei, if_pos ej] at e
          have := h2 i n (by omega) (by omega) e
          omega
        · rw [if_neg ei, if_neg ej] at e
          exact h2 i j (by omega) (by omega) e
    have ih := pigeon n (fun i => if f i = n then f n else f i) g1 g2
    by_cases et : t = f n
    · exact ⟨n, by omega, et.symm⟩
    · by_cases etn : t = n
      · subst etn
        obtain ⟨i, hi, e⟩ := ih (f t) (by omega)
        have e : (if f i = t then f t else f i) = f t := e
        by_cases ei : f i = t
        · exact ⟨i, by omega, ei⟩
        · rw [if_neg ei] at e
          have := h2 i t (by omega) (by omega) e
          omega
      · obtain ⟨i, hi, e⟩ := ih t (by omega)
        have e : (if f i = n then f n else f i) = t := e
        by_cases ei : f i = n
        · rw [if_pos ei] at e; exact absurd e.symm et
        · rw [if_neg ei] at e; exact ⟨i, by omega, e⟩
theorem ord_all {I : IV} {od : Nat → Nat} (h : ordOK I od) : ∀ t, t < iT I → ahead od (iT I) t = true := fun t ht => by
  refine ahead_iff.mpr (pigeon (iT I) od h.1 (fun i j hi hj e => ?_) t ht)
  rcases Nat.lt_trichotomy i j with q | q | q
  · have := h.2 i j q hj; rw [e] at this; omega
  · exact q
  · have := h.2 j i q hi; rw [e] at this; omega
theorem arr_full {I : IV} {Mk : Nat → Bool} {od : Nat → Nat} {i s s0 v : Nat} {S0 : Nat → Bool} {sl : Nat → Nat} (hMk : ∀ t, Mk t = true → t < 6) (hp : preT I Mk s = (S0, s0, v, sl)) (hst : s = 0 ∨ ∃ t, Mk t = true ∧ ahead od i t = true ∧ iC I t = s) (hall : ∀ t, Mk t = true → iC I t = s → ahead od i t = true) : arrS I Mk s (preT I Mk s) = (fun t => S0 t || (arrB I Mk s t && ahead od i t), s, v, sl) := by
  have ee : ∀ t, (arrB I Mk s t && ahead od i t) = arrB I Mk s t := fun t => by
    cases e : arrB I Mk s t
    · rfl
    · have e2 : (Mk t && decide (iC I t = s)) = true := e
      have e3 := (Bool.and_eq_true _ _).mp e2
      rw [hall t e3.1 (of_decide_eq_true e3.2)]; rfl
  have es : (fun t => S0 t || (arrB I Mk s t && ahead od i t)) = fun t => S0 t || arrB I Mk s t := funext fun t => by rw [ee t]
  rw [es]
  unfold arrS
  cases ea : anyB (arrB I Mk s) with
  | true => rw [if_pos rfl, hp]
  | false =>
    have hz : ∀ t, arrB I Mk s t = false := fun t => by
      cases e : arrB I Mk s t
      · rfl
      · have e2 : (Mk t && decide (iC I t = s)) = true := e
        have e3 := (Bool.and_eq_true _ _).mp e2
        rw [any_f ea t (hMk t e3.1)] at e
        exact absurd e (by decide)
    rw [if_neg (by decide), hp]
    rcases hst with rfl | ⟨t, t1, t2, t3⟩
    · have hp : ((fun _ => false, 0, 0, fun _ => 0) : RV) = (S0, s0, v, sl) := hp
      cases hp
      exact congrArg (fun z => ((z, 0, 0, fun _ => 0) : RV)) (funext fun t => by rw [hz t]; rfl)
    · have := hz t
      unfold arrB at this
      rw [t1, decide_eq_true t3] at this
      exact absurd this (by decide)
theorem preT_ok {I : IV} (ok : IOK I) {Mk : Nat → Bool} (hMk : ∀ t, Mk t = true → t < iT I) : ∀ d, (∀ t, (preT I Mk d).1 t = true → Mk t = true ∧ iC I t < d) ∧ (preT I Mk d).2.1 ≤ d ∧ (preT I Mk d).2.1 ≤ 40 ∧ ∀ t, (preT I Mk d).1 t = true → d < bF I ((preT I Mk d).2.1 + iH I)
  | 0 => ⟨fun t h => absurd (show false = true from h) (by decide), Nat.le_refl 0, Nat.zero_le 40, fun t h => absurd (show false = true from h) (by decide)⟩
  | d + 1 => by
    have hH := ok.1
    have hT := ok.2.2.2.1
    obtain ⟨h1, h2, h3, h4⟩ := preT_ok ok hMk d
    rw [preT_s]
    generalize preT I Mk d = x at h1 h2 h3 h4
    have key : (∀ t, (arrS I Mk d x).1 t = true → Mk t = true ∧ iC I t < d + 1) ∧ (arrS I Mk d x).2.1 ≤ d ∧ (arrS I Mk d x).2.1 ≤ 40 ∧ ∀ t, (arrS I Mk d x).1 t = true → d < bF I ((arrS I Mk d x).2.1 + iH I) := by
      unfold arrS
      cases ea : anyB (arrB I Mk d) with
      | false =>
        rw [if_neg (by decide)]
        exact ⟨fun t ht => ⟨(h1 t ht).1, by have := (h1 t ht).2; omega⟩, h2, h3, h4⟩
      | true =>
        rw [if_pos rfl]
        have hex : ∃ t, t < 6 ∧ arrB I Mk d t = true := by
          by_cases hn : ∃ t, t < 6 ∧ arrB I Mk d t = true
          · exact hn
          · have : anyB (arrB I Mk d) = false := any_n (fun t ht => by
              cases e : arrB I Mk d t
              · rfl
              · exact absurd ⟨t, ht, e⟩ hn)
            rw [this] at ea; exact absurd ea (by decide)
        obtain ⟨t0, -, e0⟩ := hex
        have e0 := (Bool.and_eq_true _ _).mp e0
        have hd40 := (ok.2.2.2.2.2.1 t0 (hMk t0 e0.1)).1
        have ed := of_decide_eq_true e0.2
        obtain ⟨b1, -, -⟩ := bF_spec ok (d + iH I)
        refine ⟨fun t ht => ?_, Nat.le_refl d, by show d ≤ 40; omega, fun t _ => by show d < bF I (d + iH I); omega⟩
        have ht : (x.1 t || arrB I Mk d t) = true := ht
        rcases (Bool.or_eq_true _ _).mp ht with q | q
        · exact ⟨(h1 t q).1, by have := (h1 t q).2; omega⟩
        · have q := (Bool.and_eq_true _ _).mp q
          have := of_decide_eq_true q.2
          exact ⟨q.1, by omega⟩
    obtain ⟨k1, k2, k3, k4⟩ := key
    generalize arrS I Mk d x = y at k1 k2 k3 k4
    obtain ⟨b1, b2, b3⟩ := bF_spec ok (y.2.1 + iH I)
    unfold sailS vinS
    show _ ∧ _ ∧ _ ∧ _
    by_cases e : y.2.1 + iH I ≤ d + 1 ∧ (d + 1) % iB I = 0
    · rw [if_pos e]
      exact ⟨fun t ht => absurd (show false = true from ht) (by decide), by show y.2.1 ≤ d + 1; omega, k3, fun t ht => absurd (show false = true from ht) (by decide)⟩
    · rw [if_neg e]
      refine ⟨k1, by show y.2.1 ≤ d + 1; omega, k3, fun t ht => ?_⟩
      have := k4 t ht
      show d + 1 < bF I (y.2.1 + iH I)
      rcases Nat.lt_or_ge (d + 1) (bF I (y.2.1 + iH I)) with q | q
      · exact q
      · exfalso
        have e2 : bF I (y.2.1 + iH I) = d + 1 := by omega
        exact e ⟨by omega, by rw [← e2]; exact b3⟩
