/-! the model's run of a plan -/
theorem sumR_add {f g : Nat → Nat} : ∀ (d i : Nat), sumR (fun t => f t + g t) i d = sumR f i d + sumR g i d
  | 0, _ => rfl
  | d + 1, i => by
    have := sumR_add (f := f) (g := g) d (i + 1)
    rw [sumR_s, sumR_s, sumR_s, this]; omega
theorem ct6_0 {b : Nat → Bool} (h : ct6 b = 0) : ∀ t, t < 6 → b t = false := fun t ht => by
  cases e : b t
  · rfl
  · have := ct6_drop b ht e; omega
/-- vinegar of all rows at the end of day d -/
theorem gVn_s {I : IV} {p : Nat → Nat} {d : Nat} : gVn I p (d + 1) = gVn I p d + sumR (fun r => vin (ct6 (arrS I (mkR (iT I) p r) d (preT I (mkR (iT I) p r) d)).1)) 0 (iR I) := by
  unfold gVn
  rw [← sumR_add]
  refine sumR_c (fun r _ _ => ?_)
  rw [preT_s]
  have hv := arr_v (I := I) (Mk := mkR (iT I) p r) (d := d) (x := preT I (mkR (iT I) p r) d)
  have hv1 : (arrS I (mkR (iT I) p r) d (preT I (mkR (iT I) p r) d)).2.2.1 = (preT I (mkR (iT I) p r) d).2.2.1 := by rw [hv]
  rw [← hv1]
  generalize arrS I (mkR (iT I) p r) d (preT I (mkR (iT I) p r) d) = y
  unfold sailS vinS
  split <;> rfl
def rwY (I : IV) (p : Nat → Nat) (d t : Nat) : Nat := if t < iT I ∧ (gL I p d t || decide (iC I t = d)) = true then p t else 3
theorem rwY_y {I : IV} {p : Nat → Nat} {d t : Nat} (h1 : t < iT I) (h2 : (gL I p d t || decide (iC I t = d)) = true) : rwY I p d t = p t := if_pos ⟨h1, h2⟩
theorem rwY_n {I : IV} {p : Nat → Nat} {d t : Nat} (h : ¬ (t < iT I ∧ (gL I p d t || decide (iC I t = d)) = true)) : rwY I p d t = 3 := if_neg h
theorem M_vinY {A : AS} (ok : AOK A) {p : Nat → Nat} (hp : ∀ t, t < iT (aI A) → p t < iR (aI A)) {d : Nat} {τ : Mem} (hI : IMo τ (aI A)) (h31 : ∀ t, t < iT (aI A) → mA τ 0 31 t = if (gL (aI A) p d t || decide (iC (aI A) t = d)) = true then nI (p t) else -9) : fX6_vinegar τ 0 0 31 6 0 = some (nI (sumR (fun r => vin (ct6 (arrS (aI A) (mkR (iT (aI A)) p r) d (preT (aI A) (mkR (iT (aI A)) p r) d)).1)) 0 (iR (aI A)))) := by
  have hT := ok.1.2.2.2.1
  have hR := ok.1.2.1
  have e := M_vinegar (τ := τ) (T := iT (aI A)) (R := iR (aI A)) hT hI.2.2.2.1 hR.2 hI.2.1 (a1 := 0) (b1 := 31) (n1 := 6) (fr := 0) (rw := rwY (aI A) p d) (by omega) (by decide) (fun t ht => by
    have hpt := hp t ht
    rw [Nat.zero_add, h31 t ht]
    by_cases e : (gL (aI A) p d t || decide (iC (aI A) t = d)) = true
    · rw [if_pos e, rwY_y ht e, if_pos (show p t < 3 by omega)]
    · rw [if_neg e, rwY_n (fun q => e q.2), if_neg (show ¬ 3 < 3 by decide)])
  refine Eq.trans e (congrArg some (congrArg nI (sumR_c (fun r _ hr => congrArg vin ?_))))
  have hr3 : r < 3 := by omega
  rw [sum_ct hT (fun t h1 h2 => decide_eq_false (by rw [rwY_n (fun q => by omega)]; omega))]
  refine ct6_c (fun t ht => ?_)
  have hso : ∀ t, (arrS (aI A) (mkR (iT (aI A)) p r) d (preT (aI A) (mkR (iT (aI A)) p r) d)).1 t = true → t < iT (aI A) ∧ p t = r := fun t h => by
    have h1 := (preT_ok ok.1 (mkR_lt (T := iT (aI A)) (p := p) (r := r)) d).1 t
    unfold arrS at h
    split at h
    · have h : ((preT (aI A) (mkR (iT (aI A)) p r) d).1 t || arrB (aI A) (mkR (iT (aI A)) p r) d t) = true := h
      rcases (Bool.or_eq_true _ _).mp h with q | q
      · exact mkR_t.mp (h1 q).1
      · exact mkR_t.mp ((Bool.and_eq_true _ _).mp q).1
    · exact mkR_t.mp (h1 h).1
  by_cases e1 : t < iT (aI A) ∧ p t = r
  · have hy := arrY ok.1 (p := p) (d := d) e1.1
    rw [e1.2] at hy
    rw [hy]
    by_cases e2 : (gL (aI A) p d t || decide (iC (aI A) t = d)) = true
    · rw [rwY_y e1.1 e2, e2]; exact decide_eq_true e1.2
    · rw [rwY_n (fun q => e2 q.2), (Bool.not_eq_true _).mp e2]; exact decide_eq_false (by omega)
  · have : (arrS (aI A) (mkR (iT (aI A)) p r) d (preT (aI A) (mkR (iT (aI A)) p r) d)).1 t = false := by
      cases e : (arrS (aI A) (mkR (iT (aI A)) p r) d (preT (aI A) (mkR (iT (aI A)) p r) d)).1 t
      · rfl
      · exact absurd (hso t e) e1
    rw [this]
    refine decide_eq_false (fun h => ?_)
    by_cases q : t < iT (aI A) ∧ (gL (aI A) p d t || decide (iC (aI A) t = d)) = true
    · rw [rwY_y q.1 q.2] at h; exact e1 ⟨q.1, h⟩
    · rw [rwY_n q] at h; omega
