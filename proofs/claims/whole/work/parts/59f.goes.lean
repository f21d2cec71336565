/-! the model's days, to their end -/
theorem gZ_next {I : IV} (ok : IOK I) {p : Nat → Nat} {d t : Nat} (ht : t < iT I) {L : Nat → Bool} {D : Nat → Nat} (hL : L t = (gL I p d t || decide (iC I t = d))) (h1 : gL I p (d + 1) t = (L t && !sailB I L D (d + 1) t)) : (gZ I p d t || sailB I L D (d + 1) t) = gZ I p (d + 1) t := by
  have hp := (preT_ok ok (mkR_lt (T := iT I) (p := p) (r := p t)) d).1 t
  have hp : gL I p d t = true → _ := hp
  have hsl : sailB I L D (d + 1) t = true → L t = true := fun h => by
    unfold sailB at h
    exact ((Bool.and_eq_true _ _).mp ((Bool.and_eq_true _ _).mp h).1).1
  unfold gZ
  rw [h1]
  rcases Nat.lt_trichotomy (iC I t) d with e | e | e
  · rw [decide_eq_false (show ¬ iC I t = d by omega), Bool.or_false] at hL
    rw [decide_eq_true e, decide_eq_true (show iC I t < d + 1 by omega), hL]
    cases gL I p d t <;> cases sailB I L D (d + 1) t <;> rfl
  · rw [decide_eq_true e, Bool.or_true] at hL
    rw [decide_eq_false (show ¬ iC I t < d by omega), decide_eq_true (show iC I t < d + 1 by omega), hL]
    cases sailB I L D (d + 1) t <;> rfl
  · have g0 : gL I p d t = false := by
      cases q : gL I p d t
      · rfl
      · have := (hp q).2; omega
    rw [g0, decide_eq_false (show ¬ iC I t = d by omega)] at hL
    have hL : L t = false := hL
    have s0 : sailB I L D (d + 1) t = false := by
      cases q : sailB I L D (d + 1) t
      · rfl
      · have := hsl q; rw [hL] at this; exact absurd this (by decide)
    rw [decide_eq_false (show ¬ iC I t < d by omega), decide_eq_false (show ¬ iC I t < d + 1 by omega), s0]
    rfl
theorem g_over {I : IV} (ok : IOK I) {p : Nat → Nat} {d : Nat} (hd : d ≤ 200) (hz : ct6 (nsB (iT I) (gZ I p d)) = 0) : gVn I p d = sumR (fun r => vT I (mkR (iT I) p r)) 0 (iR I) ∧ ∀ t, t < iT I → gZ I p d t = true ∧ gSl I p d t = sdT I (mkR (iT I) p (p t)) t := by
  have hT := ok.2.2.2.1
  have hZ : ∀ t, t < iT I → gZ I p d t = true := fun t ht => by
    have := ct6_0 hz t (by omega)
    unfold nsB at this
    rw [decide_eq_true ht, Bool.true_and] at this
    cases e : gZ I p d t
    · rw [e] at this; exact absurd this (by decide)
    · rfl
  have hZ2 : ∀ t, t < iT I → iC I t < d ∧ gL I p d t = false := fun t ht => by
    have := (Bool.and_eq_true _ _).mp (hZ t ht)
    refine ⟨of_decide_eq_true this.1, ?_⟩
    cases e : gL I p d t
    · rfl
    · rw [e] at this; exact absurd this.2 (by decide)
  have hset : ∀ r, (preT I (mkR (iT I) p r) 200).2.2 = (preT I (mkR (iT I) p r) d).2.2 := fun r => by
    have h := (settled (I := I) (Mk := mkR (iT I) p r) (d := d) (fun t => by
      cases e : (preT I (mkR (iT I) p r) d).1 t
      · rfl
      · have h1 := mkR_t.mp ((preT_ok ok (mkR_lt (T := iT I) (p := p) (r := r)) d).1 t e).1
        have h2 := (hZ2 t h1.1).2
        unfold gL at h2
        rw [h1.2, e] at h2; exact absurd h2 (by decide)) (fun e he => any_n (fun t _ => by
      cases q : arrB I (mkR (iT I) p r) e t
      · rfl
      · have q := (Bool.and_eq_true _ _).mp q
        have h1 := mkR_t.mp q.1
        have h2 := (hZ2 t h1.1).1
        have h3 := of_decide_eq_true q.2
        omega)) (200 - d)).2
    rw [show d + (200 - d) = 200 by omega] at h
    exact h
  refine ⟨sumR_c (fun r _ _ => ?_), fun t ht => ⟨hZ t ht, ?_⟩⟩
  · unfold vT; rw [hset r]
  · unfold sdT gSl; rw [hset (p t)]
theorem g_102 {I : IV} (ok : IOK I) {p : Nat → Nat} : ct6 (nsB (iT I) (gZ I p 102)) = 0 := by
  have hH := ok.1
  have hB := ok.2.2.1
  refine (ct6_c (c := fun _ => false) (fun t _ => ?_)).trans (by decide)
  unfold nsB
  by_cases ht : t < iT I
  · have hc := (ok.2.2.2.2.2.1 t ht).1
    obtain ⟨-, -, h3, h4⟩ := preT_ok ok (mkR_lt (T := iT I) (p := p) (r := p t)) 102
    obtain ⟨-, b2, -⟩ := bF_spec ok ((preT I (mkR (iT I) p (p t)) 102).2.1 + iH I)
    have g0 : gL I p 102 t = false := by
      cases q : gL I p 102 t
      · rfl
      · have := h4 t q; omega
    unfold gZ
    rw [g0, decide_eq_true (show iC I t < 102 by omega)]
    exact Bool.and_false _
  · rw [decide_eq_false ht, Bool.false_and]
def gL1 (I : IV) (p : Nat → Nat) (d t : Nat) : Bool := gL I p d t || decide (iC I t = d)
def gD1 (I : IV) (p : Nat → Nat) (d t : Nat) : Nat := if cB (iC I) p d (iT I) (p t) = true then 0 else gDy I p d t
theorem M_g46 {A : AS} (ok : AOK A) {p : Nat → Nat} (hp : ∀ t, t < iT (aI A) → p t < iR (aI A)) : ∀ (k d n : Nat) (τ : Mem), d + k = 102 → k < n → IMo τ (aI A) → (∀ t, t < iT (aI A) → mA τ 0 30 t = nI (p t)) → GS τ (iT (aI A)) p (gL (aI A) p d) (gDy (aI A) p d) (gZ (aI A) p d) (gSl (aI A) p d) → ∃ τ', fX6_goes_156 (fX6_goes_46 0 n) 0 FU τ (nI (ct6 (nsB (iT (aI A)) (gZ (aI A) p d)))) (nI (gVn (aI A) p d)) (nI d) 0 = some (nI (sumR (fun r => vT (aI A) (mkR (iT (aI A)) p r)) 0 (iR (aI A))), τ') ∧ (∀ t, t < iT (aI A) → mA τ' 0 33 t = nI (sdT (aI A) (mkR (iT (aI A)) p (p t)) t)) ∧ sameX (fun _ k => k = 31 ∨ k = 32 ∨ k = 33) τ τ' := by
  have hT := ok.1.2.2.2.1
  have hR := ok.1.2.1
  have hp3 : ∀ t, t < iT (aI A) → p t < 3 := fun t ht => by have := hp t ht; omega
  intro k
  induction k with
  | zero =>
    intro d n τ hd hn hI h30 hG
    obtain ⟨n, rfl⟩ : ∃ m, n = m + 1 := ⟨n - 1, by omega⟩
    have ed : d = 102 := by omega
    subst ed
    have hz := g_102 ok.1 (p := p)
    obtain ⟨v1, v2⟩ := g_over ok.1 (p := p) (by decide) hz
    obtain ⟨τ1, e1, G1, s1⟩ := M_g156 ok hp3 (L := gL (aI A) p 102) (D := gDy (aI A) p 102) (Z := gZ (aI A) p 102) (Sl := gSl (aI A) p 102) (d := 102) (by decide) (fX6_goes_46 0 (n + 1)) (nI (ct6 (nsB (iT (aI A)) (gZ (aI A) p 102)))) (nI (gVn (aI A) p 102)) (iT (aI A)) 0 FU τ (by omega) (by show _ < 1000; omega) hI h30 (hG.c (fun t _ => by rw [decide_eq_false (Nat.not_lt_zero t), Bool.false_and, Bool.or_false]) (fun t _ _ => if_neg (show ¬ false = true by decide)) (fun _ _ => rfl) (fun _ _ _ => rfl))
    refine ⟨τ1, ?_, fun t ht => ?_, s1.mono (fun o k h => by omega)⟩
    · refine Eq.trans e1 ?_
      rw [hz, if_pos (show nI 0 ≤ 0 by decide), fX6_goes_46.eq_2, if_pos (show nI 0 ≤ 0 by decide), l0, nI_add, Nat.add_zero, v1]
    · rw [(G1 t ht).2.2, (v2 t ht).1, if_pos rfl, (v2 t ht).2]
  | succ k ih =>
    intro d n τ hd hn hI h30 hG
    obtain ⟨n, rfl⟩ : ∃ m, n = m + 1 := ⟨n - 1, by omega⟩
    obtain ⟨τ1, e1, G1, s1⟩ := M_g156 ok hp3 (L := gL (aI A) p d) (D := gDy (aI A) p d) (Z := gZ (aI A) p d) (Sl := gSl (aI A) p d) (d := d) (by omega) (fX6_goes_46 0 (n + 1)) (nI (ct6 (nsB (iT (aI A)) (gZ (aI A) p d)))) (nI (gVn (aI A) p d)) (iT (aI A)) 0 FU τ (by omega) (by show _ < 1000; omega) hI h30 (hG.c (fun t _ => by rw [decide_eq_false (Nat.not_lt_zero t), Bool.false_and, Bool.or_false]) (fun t _ _ => if_neg (show ¬ false = true by decide)) (fun _ _ => rfl) (fun _ _ _ => rfl))
    have G1 : GS τ1 (iT (aI A)) p (gL1 (aI A) p d) (gD1 (aI A) p d) (gZ (aI A) p d) (gSl (aI A) p d) := G1
    have s1' : sameX (fun _ k => k = 31 ∨ k = 32 ∨ k = 33) τ τ1 := s1.mono (fun o k h => by omega)
    by_cases hz : ct6 (nsB (iT (aI A)) (gZ (aI A) p d)) = 0
    · obtain ⟨v1, v2⟩ := g_over ok.1 (p := p) (by omega) hz
      refine ⟨τ1, ?_, fun t ht => ?_, s1'⟩
      · refine Eq.trans e1 ?_
        rw [hz, if_pos (show nI 0 ≤ 0 by decide), fX6_goes_46.eq_2, if_pos (show nI 0 ≤ 0 by decide), l0, nI_add, Nat.add_zero, v1]
      · rw [(G1 t ht).2.2, (v2 t ht).1, if_pos rfl, (v2 t ht).2]
    · have hc6 := ct6_le (nsB (iT (aI A)) (gZ (aI A) p d))
      have hx0 : ¬ nI (ct6 (nsB (iT (aI A)) (gZ (aI A) p d))) ≤ 0 := by rw [l0, leN (by omega) (by omega)]; omega
      have hI1 : IMo τ1 (aI A) := hI.keep s1 (fun k hk => by omega)
      have h301 : ∀ t, t < iT (aI A) → mA τ1 0 30 t = nI (p t) := fun t ht => by rw [(s1 0 30 (by omega)).2.2.2.1]; exact h30 t ht
      have ev := M_vinY ok hp (d := d) hI1 (fun t ht => (G1 t ht).1)
      rw [if_neg hx0, ev, bd_s, nI_add, ← gVn_s, nI_1, fX6_goes_46.eq_2, if_neg hx0] at e1
      have hle : ∀ t, gDy (aI A) p d t ≤ d := fun t => by unfold gDy; omega
      have z0 : tZ (aI A) (gL1 (aI A) p d) (gD1 (aI A) p d) (gZ (aI A) p d) (d + 1) 0 = gZ (aI A) p d := funext fun t => if_neg (Nat.not_lt_zero t)
      obtain ⟨τ2, e2, G2, s2⟩ := M_g53 ok hp3 (L := gL1 (aI A) p d) (D := gD1 (aI A) p d) (Z := gZ (aI A) p d) (Sl := gSl (aI A) p d) (fun t ht => by
          have := hle t
          unfold gD1
          split <;> omega) (fun t ht hl => by
          have hl : (gL (aI A) p d t || decide (iC (aI A) t = d)) = true := hl
          unfold gZ
          rcases (Bool.or_eq_true _ _).mp hl with q | q
          · rw [q, Bool.not_true, Bool.and_false]
          · rw [decide_eq_false (show ¬ iC (aI A) t < d by have := of_decide_eq_true q; omega), Bool.false_and]) (d := d + 1) (by omega) (fX6_goes_46 0 n) (nI (gVn (aI A) p (d + 1))) (iT (aI A)) 0 FU τ1 (by omega) (by show _ < 1000; omega) hI1 (G1.c (fun t _ => if_neg (Nat.not_lt_zero t)) (fun t _ _ => if_neg (Nat.not_lt_zero t)) (fun t _ => if_neg (Nat.not_lt_zero t)) (fun t _ _ => if_neg (fun q => absurd q.1 (Nat.not_lt_zero t))))
      rw [z0] at e2
      have hn : ∀ t, t < iT (aI A) → _ := fun t ht => nxt ok.1 (p := p) (d := d) ht (L := gL1 (aI A) p d) (D := gD1 (aI A) p d) rfl (fun _ => arrD ok.1)
      have G3 : GS τ2 (iT (aI A)) p (gL (aI A) p (d + 1)) (gDy (aI A) p (d + 1)) (gZ (aI A) p (d + 1)) (gSl (aI A) p (d + 1)) := by
        refine G2.c (fun t ht => ?_) (fun t ht hl => ?_) (fun t ht => ?_) (fun t ht hz => ?_)
        · rw [(hn t ht).1]; exact (if_pos ht).symm
        · have hl : (if t < iT (aI A) then _ else _ : Bool) = true := hl
          rw [if_pos ht] at hl
          rw [(hn t ht).2.1 hl]
          unfold tD
          rw [if_pos ht, if_neg (show ¬ d + 1 = 0 by omega)]
        · rw [← gZ_next ok.1 ht (L := gL1 (aI A) p d) (D := gD1 (aI A) p d) rfl (hn t ht).1]; exact (if_pos ht).symm
        · rw [(hn t ht).2.2]
          unfold tS
          by_cases q : sailB (aI A) (gL1 (aI A) p d) (gD1 (aI A) p d) (d + 1) t = true
          · rw [if_pos q, if_pos ⟨ht, q⟩]
          · rw [if_neg q, if_neg (fun w => q w.2)]
      have ecnt : ct6 (nsB (iT (aI A)) (tZ (aI A) (gL1 (aI A) p d) (gD1 (aI A) p d) (gZ (aI A) p d) (d + 1) (iT (aI A)))) = ct6 (nsB (iT (aI A)) (gZ (aI A) p (d + 1))) := ct6_c (fun t _ => by
        unfold nsB
        by_cases ht : t < iT (aI A)
        · rw [← gZ_next ok.1 ht (L := gL1 (aI A) p d) (D := gD1 (aI A) p d) rfl (hn t ht).1]
          unfold tZ
          rw [if_pos ht]
        · rw [decide_eq_false ht, Bool.false_and, Bool.false_and])
      rw [ecnt] at e2
      obtain ⟨τ3, e3, a3, s3⟩ := ih (d + 1) n τ2 (by omega) (by omega) (hI1.keep s2 (fun k hk => by omega)) (fun t ht => by rw [(s2 0 30 (by omega)).2.2.2.1]; exact h301 t ht) G3
      exact ⟨τ3, e1.trans (e2.trans e3), a3, s1'.tr (s2.tr s3)⟩
