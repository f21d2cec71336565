/-! the model's days tied to the rows -/
def mkR (T : Nat) (p : Nat → Nat) (r t : Nat) : Bool := decide (t < T) && decide (p t = r)
theorem mkR_t {T : Nat} {p : Nat → Nat} {r t : Nat} : mkR T p r t = true ↔ t < T ∧ p t = r := by
  unfold mkR; rw [Bool.and_eq_true, decide_eq_true_eq, decide_eq_true_eq]
def gL (I : IV) (p : Nat → Nat) (d t : Nat) : Bool := (preT I (mkR (iT I) p (p t)) d).1 t
def gDy (I : IV) (p : Nat → Nat) (d t : Nat) : Nat := d - (preT I (mkR (iT I) p (p t)) d).2.1
def gZ (I : IV) (p : Nat → Nat) (d t : Nat) : Bool := decide (iC I t < d) && !gL I p d t
def gSl (I : IV) (p : Nat → Nat) (d t : Nat) : Nat := (preT I (mkR (iT I) p (p t)) d).2.2.2 t
def gVn (I : IV) (p : Nat → Nat) (d : Nat) : Nat := sumR (fun r => (preT I (mkR (iT I) p r) d).2.2.1) 0 (iR I)
theorem arrB_mk {I : IV} {p : Nat → Nat} {d t : Nat} (ht : t < iT I) : arrB I (mkR (iT I) p (p t)) d t = decide (iC I t = d) := by
  unfold arrB; rw [mkR_t.mpr ⟨ht, rfl⟩, Bool.true_and]
theorem arrY {I : IV} (ok : IOK I) {p : Nat → Nat} {d t : Nat} (ht : t < iT I) : (arrS I (mkR (iT I) p (p t)) d (preT I (mkR (iT I) p (p t)) d)).1 t = (gL I p d t || decide (iC I t = d)) := by
  have hT := ok.2.2.2.1
  unfold arrS gL
  cases ea : anyB (arrB I (mkR (iT I) p (p t)) d) with
  | true => rw [if_pos rfl]; show (_ || arrB I (mkR (iT I) p (p t)) d t) = _; rw [arrB_mk ht]
  | false =>
    have := any_f ea t (by omega)
    rw [arrB_mk ht] at this
    rw [if_neg (by decide), this, Bool.or_false]
theorem cB_iff {C p : Nat → Nat} {d r : Nat} : ∀ {i : Nat}, cB C p d i r = true ↔ ∃ t, t < i ∧ C t = d ∧ p t = r
  | 0 => ⟨fun h => absurd (show false = true from h) (by decide), fun ⟨t, ht, _⟩ => absurd ht (Nat.not_lt_zero t)⟩
  | i + 1 => by
    have ih := cB_iff (C := C) (p := p) (d := d) (r := r) (i := i)
    show (cB C p d i r || (decide (C i = d) && decide (p i = r))) = true ↔ _
    rw [Bool.or_eq_true, ih, Bool.and_eq_true, decide_eq_true_eq, decide_eq_true_eq]
    constructor
    · rintro (⟨t, h1, h2⟩ | h)
      · exact ⟨t, by omega, h2⟩
      · exact ⟨i, by omega, h⟩
    · rintro ⟨t, h1, h2⟩
      by_cases e : t = i
      · exact Or.inr (e ▸ h2)
      · exact Or.inl ⟨t, by omega, h2⟩
theorem cB_any {I : IV} (ok : IOK I) {p : Nat → Nat} {d r : Nat} : cB (iC I) p d (iT I) r = anyB (arrB I (mkR (iT I) p r) d) := by
  have hT := ok.2.2.2.1
  cases ea : anyB (arrB I (mkR (iT I) p r) d) with
  | false =>
    cases ec : cB (iC I) p d (iT I) r
    · rfl
    · obtain ⟨t, h1, h2, h3⟩ := cB_iff.mp ec
      have := any_f ea t (by omega)
      unfold arrB at this
      rw [mkR_t.mpr ⟨h1, h3⟩, decide_eq_true h2] at this
      exact absurd this (by decide)
  | true =>
    by_cases hn : ∃ t, t < 6 ∧ arrB I (mkR (iT I) p r) d t = true
    · obtain ⟨t, -, e⟩ := hn
      have e := (Bool.and_eq_true _ _).mp e
      have e1 := mkR_t.mp e.1
      exact cB_iff.mpr ⟨t, e1.1, of_decide_eq_true e.2, e1.2⟩
    · have : anyB (arrB I (mkR (iT I) p r) d) = false := any_n (fun t ht => by
        cases e : arrB I (mkR (iT I) p r) d t
        · rfl
        · exact absurd ⟨t, ht, e⟩ hn)
      rw [this] at ea; exact absurd ea (by decide)
/-- days of those there, after who came -/
theorem arrD {I : IV} (ok : IOK I) {p : Nat → Nat} {d t : Nat} : (if cB (iC I) p d (iT I) (p t) = true then 0 else gDy I p d t) = d - (arrS I (mkR (iT I) p (p t)) d (preT I (mkR (iT I) p (p t)) d)).2.1 := by
  rw [cB_any ok]
  unfold arrS gDy
  cases anyB (arrB I (mkR (iT I) p (p t)) d) with
  | true => rw [if_pos rfl, if_pos rfl]; exact (Nat.sub_self d).symm
  | false => rw [if_neg (by decide), if_neg (by decide)]
theorem mkR_lt {T : Nat} {p : Nat → Nat} {r : Nat} : ∀ t, mkR T p r t = true → t < T := fun t h => (mkR_t.mp h).1
theorem arr_le {I : IV} (ok : IOK I) {Mk : Nat → Bool} (hMk : ∀ t, Mk t = true → t < iT I) (d : Nat) : (arrS I Mk d (preT I Mk d)).2.1 ≤ d := by
  have h := (preT_ok ok hMk d).2.1
  unfold arrS
  split
  · exact Nat.le_refl d
  · exact h
theorem arr_v {I : IV} {Mk : Nat → Bool} {d : Nat} {x : RV} : (arrS I Mk d x).2.2 = x.2.2 := by
  unfold arrS
  split <;> rfl
/-- from the end of day d to the middle of the next -/
theorem nxt {I : IV} (ok : IOK I) {p : Nat → Nat} {d t : Nat} (ht : t < iT I) {L : Nat → Bool} {D : Nat → Nat} (hL : L t = (gL I p d t || decide (iC I t = d))) (hD : L t = true → D t = d - (arrS I (mkR (iT I) p (p t)) d (preT I (mkR (iT I) p (p t)) d)).2.1) : gL I p (d + 1) t = (L t && !sailB I L D (d + 1) t) ∧ ((L t && !sailB I L D (d + 1) t) = true → gDy I p (d + 1) t = D t + 1) ∧ gSl I p (d + 1) t = if sailB I L D (d + 1) t = true then d + 1 else gSl I p d t := by
  have hle := arr_le ok (mkR_lt (T := iT I) (p := p) (r := p t)) d
  have hy := arrY ok (p := p) (d := d) ht
  have hv := arr_v (I := I) (Mk := mkR (iT I) p (p t)) (d := d) (x := preT I (mkR (iT I) p (p t)) d)
  rw [← hL] at hy
  have es : gSl I p d t = (preT I (mkR (iT I) p (p t)) d).2.2.2 t := rfl
  rw [es, ← hv]
  unfold gL gDy gSl
  rw [preT_s]
  generalize arrS I (mkR (iT I) p (p t)) d (preT I (mkR (iT I) p (p t)) d) = y at hle hy hD
  unfold sailS vinS
  show (if y.2.1 + iH I ≤ d + 1 ∧ (d + 1) % iB I = 0 then _ else _ : RV).1 t = _ ∧ (_ → d + 1 - (if y.2.1 + iH I ≤ d + 1 ∧ (d + 1) % iB I = 0 then _ else _ : RV).2.1 = _) ∧ (if y.2.1 + iH I ≤ d + 1 ∧ (d + 1) % iB I = 0 then _ else _ : RV).2.2.2 t = _
  cases el : L t with
  | false =>
    have hs : sailB I L D (d + 1) t = false := by unfold sailB; rw [el]; rfl
    rw [el] at hy
    rw [hs]
    by_cases e : y.2.1 + iH I ≤ d + 1 ∧ (d + 1) % iB I = 0
    · rw [if_pos e]
      refine ⟨rfl, fun h => absurd h (by decide), ?_⟩
      show (if y.1 t = true then d + 1 else y.2.2.2 t) = _
      rw [hy, if_neg (show ¬ false = true by decide)]
    · rw [if_neg e]
      exact ⟨hy, fun h => absurd h (by decide), rfl⟩
  | true =>
    have hD := hD el
    rw [el] at hy
    have hs : sailB I L D (d + 1) t = decide (y.2.1 + iH I ≤ d + 1 ∧ (d + 1) % iB I = 0) := by
      unfold sailB
      rw [el, if_neg (by omega), hD, Bool.true_and]
      by_cases e1 : iH I ≤ d - y.2.1 + 1
      · by_cases e2 : (d + 1) % iB I = 0
        · rw [decide_eq_true e1, decide_eq_true e2, decide_eq_true ⟨by omega, e2⟩]; rfl
        · rw [decide_eq_false e2, Bool.and_false, decide_eq_false (show ¬ (y.2.1 + iH I ≤ d + 1 ∧ (d + 1) % iB I = 0) from fun q => e2 q.2)]
      · rw [decide_eq_false e1, Bool.false_and, decide_eq_false (show ¬ (y.2.1 + iH I ≤ d + 1 ∧ (d + 1) % iB I = 0) from fun q => e1 (by omega))]
    rw [hs]
    by_cases e : y.2.1 + iH I ≤ d + 1 ∧ (d + 1) % iB I = 0
    · rw [if_pos e, decide_eq_true e]
      refine ⟨rfl, fun h => absurd h (by decide), ?_⟩
      show (if y.1 t = true then d + 1 else y.2.2.2 t) = _
      rw [hy, if_pos rfl]
    · rw [if_neg e, decide_eq_false e]
      refine ⟨hy, fun _ => ?_, rfl⟩
      show d + 1 - y.2.1 = D t + 1
      omega
