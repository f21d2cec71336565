/-! island -/
theorem ItX.bd {X : XV} {q2 b : Nat} {σ τ : Mem} {cl : Option (Int32 × Mem)} {mo : Option Mem} (h : ItX X q2 b σ τ cl mo) : ItX X q2 b σ τ cl (bd mo (fun σ => some σ)) := by
  obtain ⟨σ', τ', e, r⟩ := h
  exact ⟨σ', τ', by rw [e, bd_s], r⟩
theorem kdX_cases {X : XV} {s : Nat} : kdX X s = 0 ∨ kdX X s = 1 ∨ kdX X s = 2 ∨ kdX X s = 59 ∨ isIt (kdX X s) = true := by
  unfold kdX
  by_cases e : X.1 ≤ s
  · rw [if_pos e]; exact Or.inl rfl
  · rw [if_neg e]
    by_cases e2 : isFg (X.2 s) = true
    · rw [if_pos e2]
      by_cases e3 : X.2 s = 48 ∧ 1 < fgX X s - s
      · rw [if_pos e3]; exact Or.inr (Or.inr (Or.inl rfl))
      · rw [if_neg e3]
        by_cases e4 : nVx X s (fgX X s - s) ≤ 1023
        · rw [if_pos e4]; exact Or.inr (Or.inl rfl)
        · rw [if_neg e4]; exact Or.inr (Or.inr (Or.inl rfl))
    · rw [if_neg e2]
      by_cases e3 : isIt (X.2 s) = true ∨ X.2 s = 59
      · rw [if_pos e3]
        rcases e3 with e3 | e3
        · exact Or.inr (Or.inr (Or.inr (Or.inr e3)))
        · exact Or.inr (Or.inr (Or.inr (Or.inl e3)))
      · rw [if_neg e3]; exact Or.inr (Or.inr (Or.inl rfl))
theorem b2n0 {b : Bool} {α : Type} {x y : α} : (if nI (b2n b) = 0 then x else y) = if b = true then y else x := by
  cases b
  · rfl
  · rfl
theorem mb_no {σ : Mem} {q2 k : Nat} (hk : k = 1 ∨ k = 2 ∨ k = 59) : fX4_mayBegin σ 1 (nI k) q2 = some 0 := by
  have e : ∀ j, (j = 98 ∨ j = 107 ∨ j = 113 ∨ j = 114 ∨ j = 116) → ¬ nI k = nI j := fun j hj => by
    rw [eqN (by omega) (by omega)]; omega
  unfold fX4_mayBegin
  rw [if_neg (show ¬ nI k = (98 : Int32) from e 98 (by omega)), if_neg (show ¬ nI k = (107 : Int32) from e 107 (by omega)), if_neg (show ¬ nI k = (113 : Int32) from e 113 (by omega)), if_neg (show ¬ nI k = (114 : Int32) from e 114 (by omega)), if_neg (show ¬ nI k = (116 : Int32) from e 116 (by omega))]
theorem tm_1 {k : Nat} (h : isIt k = true) : nI (tmk k) = (1 : Int32) := by
  have h := of_decide_eq_true h
  unfold tmk
  rw [if_neg (by omega), if_neg (by omega), if_neg (by omega), if_neg (by omega)]
  rfl
theorem tm_o {k : Nat} (hk : k = 1 ∨ k = 2 ∨ k = 59) : ¬ nI (tmk k) = (1 : Int32) := by
  rcases hk with rfl | rfl | rfl <;> decide
theorem ri16_0 {τ : Mem} : fX6_readItem_16 0 τ 0 = some (sI τ 0 23 1) := by
  unfold fX6_readItem_16
  rw [if_neg (by decide), if_neg (by decide), if_neg (by decide), if_neg (by decide), if_neg (by decide), stp_s]
theorem ri16_q {τ : Mem} : fX6_readItem_16 0 τ (nI 113) = bd (fX6_readOne τ 0 (nI 0) (nI 40)) (fun σ => some σ) := by
  unfold fX6_readItem_16
  rw [if_pos (show nI 113 = 113 from rfl)]
  rfl
theorem ri16_r {τ : Mem} : fX6_readItem_16 0 τ (nI 114) = bd (fX6_readOne τ 0 (nI 1) (nI 3)) (fun σ => some σ) := by
  unfold fX6_readItem_16
  rw [if_neg (show ¬ nI 114 = 113 by decide), if_pos (show nI 114 = 114 from rfl)]
  rfl
theorem ri16_b {τ : Mem} : fX6_readItem_16 0 τ (nI 98) = bd (fX6_readOne τ 0 (nI 2) (nI 9)) (fun σ => some σ) := by
  unfold fX6_readItem_16
  rw [if_neg (show ¬ nI 98 = 113 by decide), if_neg (show ¬ nI 98 = 114 by decide), if_pos (show nI 98 = 98 from rfl)]
  rfl
theorem ri16_t {τ : Mem} : fX6_readItem_16 0 τ (nI 116) = bd (fX6_readTraveller τ 0) (fun σ => some σ) := by
  unfold fX6_readItem_16
  rw [if_neg (show ¬ nI 116 = 113 by decide), if_neg (show ¬ nI 116 = 114 by decide), if_neg (show ¬ nI 116 = 98 by decide), if_pos (show nI 116 = 116 from rfl)]
theorem ri16_k {τ : Mem} : fX6_readItem_16 0 τ (nI 107) = bd (fX6_readClerk τ 0) (fun σ => some σ) := by
  unfold fX6_readItem_16
  rw [if_neg (show ¬ nI 107 = 113 by decide), if_neg (show ¬ nI 107 = 114 by decide), if_neg (show ¬ nI 107 = 98 by decide), if_neg (show ¬ nI 107 = 116 by decide), if_pos (show nI 107 = 107 from rfl)]
theorem mb_q {σ : Mem} {q2 : Nat} : fX4_mayBegin σ 1 (nI 113) q2 = if mI σ 1 7 = 0 then some 1 else some 0 := by
  unfold fX4_mayBegin
  rw [if_neg (show ¬ nI 113 = 98 by decide), if_neg (show ¬ nI 113 = 107 by decide), if_pos (show nI 113 = 113 from rfl)]
theorem mb_r {σ : Mem} {q2 : Nat} : fX4_mayBegin σ 1 (nI 114) q2 = if mI σ 1 8 = 0 then some 1 else some 0 := by
  unfold fX4_mayBegin
  rw [if_neg (show ¬ nI 114 = 98 by decide), if_neg (show ¬ nI 114 = 107 by decide), if_neg (show ¬ nI 114 = 113 by decide), if_pos (show nI 114 = 114 from rfl)]
theorem mb_b {σ : Mem} {q2 : Nat} : fX4_mayBegin σ 1 (nI 98) q2 = if mI σ 1 9 = 0 then some 1 else some 0 := by
  unfold fX4_mayBegin
  rw [if_pos (show nI 98 = 98 from rfl)]
theorem mb_t {σ : Mem} {q2 : Nat} : fX4_mayBegin σ 1 (nI 116) q2 = if (6 : Int32) ≤ mI σ q2 3 then some 0 else some 1 := by
  unfold fX4_mayBegin
  rw [if_neg (show ¬ nI 116 = 98 by decide), if_neg (show ¬ nI 116 = 107 by decide), if_neg (show ¬ nI 116 = 113 by decide), if_neg (show ¬ nI 116 = 114 by decide), if_pos (show nI 116 = 116 from rfl)]
theorem mb_k {σ : Mem} {q2 : Nat} : fX4_mayBegin σ 1 (nI 107) q2 = if (4 : Int32) ≤ mI σ q2 4 then some 0 else some 1 := by
  unfold fX4_mayBegin
  rw [if_neg (show ¬ nI 107 = 98 by decide), if_pos (show nI 107 = 107 from rfl)]
theorem tell_q {σ : Mem} {q2 : Nat} : fX4_tell σ 1 (nI 113) q2 = some (sI (sI σ q2 0 (mA σ 1 6 0)) 1 (7 + 0) 1) := by
  unfold fX4_tell
  rw [if_neg (show ¬ nI 113 = 98 by decide), if_pos (show nI 113 = 113 from rfl)]
  rfl
theorem tell_r {σ : Mem} {q2 : Nat} : fX4_tell σ 1 (nI 114) q2 = some (sI (sI σ q2 1 (mA σ 1 6 0)) 1 (7 + 1) 1) := by
  unfold fX4_tell
  rw [if_neg (show ¬ nI 114 = 98 by decide), if_neg (show ¬ nI 114 = 113 by decide), if_pos (show nI 114 = 114 from rfl)]
  rfl
theorem tell_b {σ : Mem} {q2 : Nat} : fX4_tell σ 1 (nI 98) q2 = some (sI (sI σ q2 2 (mA σ 1 6 0)) 1 (7 + 2) 1) := by
  unfold fX4_tell
  rw [if_pos (show nI 98 = 98 from rfl)]
  rfl
/-- the class's item, once it may begin -/
theorem C_item {σ : Mem} {q2 c w : Nat} {b : Bool} (h2 : mI σ 1 2 = nI c) (hmb : fX4_mayBegin σ 1 (nI c) q2 = if b = true then some 0 else some 1) (hw : (c = 107 ∧ w = 3) ∨ (c = 116 ∧ w = 2) ∨ (c ≠ 107 ∧ c ≠ 116 ∧ c < 256 ∧ w = 1)) : fX4_readItem σ 1 q2 = if b = true then some (0, σ) else fX4_readItem_41 1 FU σ q2 (nI c) (nI w) (nI 0) := by
  unfold fX4_readItem
  rw [h2, hmb]
  cases b with
  | true => rw [if_pos rfl, bd_s, if_pos rfl, if_pos rfl]
  | false =>
    rw [if_neg (show ¬ false = true by decide), bd_s, if_neg (show ¬ (1 : Int32) = 0 by decide), if_neg (show ¬ false = true by decide), show (107 : Int32) = nI 107 from rfl, show (116 : Int32) = nI 116 from rfl, iteE (by omega) (by omega), iteE (by omega) (by omega), l0, l1, show (2 : Int32) = nI 2 from rfl, show (3 : Int32) = nI 3 from rfl]
    rcases hw with ⟨e1, e2⟩ | ⟨e1, e2⟩ | ⟨e1, e2, -, e4⟩
    · rw [if_pos e1, e2]
    · rw [if_neg (by omega), if_pos e1, e2]
    · rw [if_neg e1, if_neg e2, e4]
theorem ifd {P : Prop} [Decidable P] {α : Type} {x y : α} : (if decide P = true then x else y) = if P then x else y := by
  by_cases h : P
  · rw [if_pos h, if_pos (decide_eq_true h)]
  · rw [if_neg h, if_neg (fun w => h (of_decide_eq_true w))]
theorem it_all {X : XV} (hX : XOK X) {σ τ : Mem} {q2 b : Nat} {D : DV} (hT : TC σ X) (hc : CTk σ X b) (hm : MOKx τ X b) (hCD : CDr σ q2 D) (hMD : MDr τ D) (ok : IOK D.1) (hq : q2 = 2 ∨ q2 = 3) (hb : b ≤ X.1) (h0 : kdX X (skX X b) ≠ 0) : ItX X q2 b σ τ (fX4_readItem σ 1 q2) (fX6_readItem τ 0) := by
  have hL := hX.1
  have hsk := sk_le hb
  have hT6 := ok.2.2.2.1
  have hK4 := ok.2.2.2.2.1
  have oth : (kdX X (skX X b) = 1 ∨ kdX X (skX X b) = 2 ∨ kdX X (skX X b) = 59) → ItX X q2 b σ τ (fX4_readItem σ 1 q2) (fX6_readItem τ 0) := fun hk => by
    refine ⟨σ, sI τ 0 23 1, ?_, sameX.rf, by repeat (first | exact sameX.rf | refine sameX.sI ?_ (by first | rfl | exact Or.inl rfl | exact Or.inr rfl | trivial | decide | omega | simp) _ | refine sameX.sA ?_ (by first | rfl | exact Or.inl rfl | exact Or.inr rfl | trivial | decide | omega | simp) _ _ | refine sameX.sL ?_ (by first | rfl | exact Or.inl rfl | exact Or.inr rfl | trivial | decide | omega | simp) _ | refine sameX.sP ?_ (by first | rfl | exact Or.inl rfl | exact Or.inr rfl | trivial | decide | omega | simp) _ | refine sameX.sB ?_ (by first | rfl | exact Or.inl rfl | exact Or.inr rfl | trivial | decide | omega | simp) _ _), Or.inr ⟨?_, skX X b, hc.2.1, wr1 hm.2.1.1, by omega⟩⟩
    · unfold fX6_readItem
      rw [hm.2.1.2.1, if_neg (tm_o hk), ri16_0]
    · unfold fX4_readItem
      rw [hc.1, mb_no hk, bd_s, if_pos rfl]
  rcases kdX_cases (X := X) (s := skX X b) with hk | hk | hk | hk | hk
  · exact absurd hk h0
  · exact oth (Or.inl hk)
  · exact oth (Or.inr (Or.inl hk))
  · exact oth (Or.inr (Or.inr hk))
  have h22 := hm.2.1.2.2.2.2 hk
  have em : fX6_readItem τ 0 = fX6_readItem_16 0 τ (nI (kdX X (skX X b))) := by
    unfold fX6_readItem
    rw [hm.2.1.2.1, if_pos (tm_1 hk), h22]
  rw [em]
  rcases of_decide_eq_true hk with hk | hk | hk | hk | hk
  · have h := (it_one hX hT hc hm hCD hMD ok hq hb (c := 113) (k := 0) (hi := 40) hk (by decide) (by decide) (by decide) (fun v hv => ⟨fun _ => hv, fun h => absurd h (by decide), fun h => absurd h (by decide)⟩) (fun σ v hv h5 => fits_q hv h5 _) (fun σ => tell_q)).bd
    rw [hk, ri16_q, C_item (b := D.2 0) (c := 113) (w := 1) (by rw [hc.1, hk]) (by rw [mb_q, hCD.2 0 (by decide), b2n0]) (by omega)]
    exact h
  · have h := (it_one hX hT hc hm hCD hMD ok hq hb (c := 114) (k := 1) (hi := 3) hk (by decide) (by decide) (by decide) (fun v hv => ⟨fun h => absurd h (by decide), fun _ => hv, fun h => absurd h (by decide)⟩) (fun σ v hv h5 => fits_r hv h5 _) (fun σ => tell_r)).bd
    rw [hk, ri16_r, C_item (b := D.2 1) (c := 114) (w := 1) (by rw [hc.1, hk]) (by rw [mb_r, hCD.2 1 (by decide), b2n0]) (by omega)]
    exact h
  · have h := (it_one hX hT hc hm hCD hMD ok hq hb (c := 98) (k := 2) (hi := 9) hk (by decide) (by decide) (by decide) (fun v hv => ⟨fun h => absurd h (by decide), fun h => absurd h (by decide), fun _ => hv⟩) (fun σ v hv h5 => fits_b hv h5 _) (fun σ => tell_b)).bd
    rw [hk, ri16_b, C_item (b := D.2 2) (c := 98) (w := 1) (by rw [hc.1, hk]) (by rw [mb_b, hCD.2 2 (by decide), b2n0]) (by omega)]
    exact h
  · have h := (it_trav hX hT hc hm hCD hMD ok hq hb hk).bd
    rw [hk, ri16_t, C_item (b := decide (6 ≤ iT D.1)) (c := 116) (w := 2) (by rw [hc.1, hk]) (by rw [mb_t, hCD.1.2.2.2.1, show (6 : Int32) = nI 6 from rfl, iteLE (by omega) (by omega), ifd]) (by omega), ifd]
    exact h
  · have h := (it_clerk hX hT hc hm hCD hMD ok hq hb hk).bd
    rw [hk, ri16_k, C_item (b := decide (4 ≤ iK D.1)) (c := 107) (w := 3) (by rw [hc.1, hk]) (by rw [mb_k, hCD.1.2.2.2.2.1, show (4 : Int32) = nI 4 from rfl, iteLE (by omega) (by omega), ifd]) (by omega), ifd]
    exact h
theorem tmk_0 {k : Nat} : (nI (tmk k) = 0) ↔ k = 0 := by
  have := tmk_lt k
  rw [l0, eqN (by omega) (by omega)]
  unfold tmk
  by_cases h0 : k = 0
  · rw [if_pos h0]; omega
  · rw [if_neg h0]
    split
    · omega
    · split
      · omega
      · split <;> omega
theorem isl_loop {X : XV} (hX : XOK X) {q2 : Nat} (hq : q2 = 2 ∨ q2 = 3) : ∀ (r b it nC nM : Nat) (σ τ : Mem) (D : DV), X.1 - b ≤ r → r + 1 < nC → r + 1 < nM → it ≤ b → b ≤ X.1 → TC σ X → mI σ 1 4 = nI b → MOKx τ X b → CDr σ q2 D → MDr τ D → IOK D.1 → ∃ (σ' τ' : Mem) (x : Int32), fX6_island_53 0 nM τ (nI it) = fX6_island_77 0 τ' x ∧ sameX (FCi q2) σ σ' ∧ sameX FMi τ τ' ∧ ((∃ (m : Nat) (D' : DV), x = nI m ∧ m ≤ 200 ∧ fX4_readInto_26 1 nC σ q2 (nI it) = some (nI m, σ') ∧ mI τ' 0 23 = 0 ∧ CDr σ' q2 D' ∧ MDr τ' D' ∧ IOK D'.1) ∨ (∃ p, p ≤ 200 ∧ fX4_readInto_26 1 nC σ q2 (nI it) = some (-10 - nI p, σ') ∧ WRx τ' p)) := by
  have hL := hX.1
  intro r
  induction r with
  | zero =>
    intro b it nC nM σ τ D hr hC hM hit hb hT h4 hm hCD hMD ok
    obtain ⟨nC, rfl⟩ : ∃ m, nC = m + 1 := ⟨nC - 1, by omega⟩
    obtain ⟨nM, rfl⟩ : ∃ m, nM = m + 1 := ⟨nM - 1, by omega⟩
    obtain ⟨σ1, e1, c1, t1⟩ := C_next hX hT hb h4
    have hs := skX_ge (X := X) (X.1 - b) b (by omega)
    have hk : kdX X (skX X b) = 0 := by unfold kdX; rw [if_pos (by omega)]
    refine ⟨σ1, τ, nI it, ?_, FLc_i t1, sameX.rf, Or.inl ⟨it, D, rfl, by omega, ?_, hm.2.2, hCD.keep t1 (fun k => by omega) (fun k hk => by omega), hMD, ok⟩⟩
    · rw [fX6_island_53.eq_2, if_pos (show mI τ 0 21 = 0 by rw [hm.2.1.2.1]; exact tmk_0.mpr hk)]
    · rw [fX4_readInto_26.eq_2, show (200 : Int32) = nI 200 from rfl, iteL (by omega) (by omega), if_neg (by omega), e1, bd_s, if_pos (show mI σ1 1 2 = 0 by rw [c1.1, hk]; rfl)]
  | succ r ih =>
    intro b it nC nM σ τ D hr hC hM hit hb hT h4 hm hCD hMD ok
    obtain ⟨nC, rfl⟩ : ∃ m, nC = m + 1 := ⟨nC - 1, by omega⟩
    obtain ⟨nM, rfl⟩ : ∃ m, nM = m + 1 := ⟨nM - 1, by omega⟩
    obtain ⟨σ1, e1, c1, t1⟩ := C_next hX hT hb h4
    have hCD1 : CDr σ1 q2 D := hCD.keep t1 (fun k => by omega) (fun k hk => by omega)
    have hT1 : TC σ1 X := hT.keep t1 ⟨by omega, by omega⟩
    by_cases hk : kdX X (skX X b) = 0
    · refine ⟨σ1, τ, nI it, ?_, FLc_i t1, sameX.rf, Or.inl ⟨it, D, rfl, by omega, ?_, hm.2.2, hCD1, hMD, ok⟩⟩
      · rw [fX6_island_53.eq_2, if_pos (show mI τ 0 21 = 0 by rw [hm.2.1.2.1]; exact tmk_0.mpr hk)]
      · rw [fX4_readInto_26.eq_2, show (200 : Int32) = nI 200 from rfl, iteL (by omega) (by omega), if_neg (by omega), e1, bd_s, if_pos (show mI σ1 1 2 = 0 by rw [c1.1, hk]; rfl)]
    · have hkl := kdX_lt hX (s := skX X b)
      have hk1 : ¬ mI σ1 1 2 = 0 := by rw [c1.1, l0, eqN (by omega) (by omega)]; exact hk
      have hk2 : ¬ mI τ 0 21 = 0 := by rw [hm.2.1.2.1]; exact fun w => hk (tmk_0.mp w)
      obtain ⟨σ2, τ2, g1, g2, g3, g4⟩ := it_all hX hT1 c1 hm hCD1 hMD ok hq hb hk
      have t12 : sameX (FCi q2) σ σ2 := (FLc_i t1).tr g2
      rw [fX6_island_53.eq_2, if_neg hk2, if_pos hm.2.2, g1, bd_s, nI_1, fX4_readInto_26.eq_2, show (200 : Int32) = nI 200 from rfl, iteL (by omega) (by omega), if_neg (by omega), e1, bd_s, if_neg hk1, nI_1]
      rcases g4 with ⟨g4, D', b', o1, o2, o3, o4, o5, o6, o7⟩ | ⟨g4, p, o1, o2, o3⟩
      · rw [g4, bd2_s, if_neg (show ¬ (1 : Int32) = 0 by decide)]
        obtain ⟨σ3, τ3, x, a1, a2, a3, a4⟩ := ih b' (it + 1) nC nM σ2 τ2 D' (by omega) (by omega) (by omega) (by omega) o7 (hT1.keep g2 ⟨by omega, by omega⟩) o4 o5 o2 o3 o1
        exact ⟨σ3, τ3, x, a1, t12.tr a2, g3.tr a3, a4⟩
      · rw [g4, bd2_s, if_pos rfl, o1]
        obtain ⟨nM, rfl⟩ : ∃ m, nM = m + 1 := ⟨nM - 1, by omega⟩
        refine ⟨σ2, τ2, nI (it + 1), ?_, t12, g3, Or.inr ⟨p, o3, rfl, o2⟩⟩
        rw [fX6_island_53.eq_2, if_neg (show ¬ mI τ2 0 23 = 0 by rw [o2.1]; decide)]
        exact ite_self _
theorem M_178 {x1 : Int32} : ∀ (r i n : Nat) (τ : Mem), i + r = 26 → r < n → ∃ τ', fX6_island_178 0 n τ x1 (nI i) = some (x1, τ') ∧ (∀ k, k < 26 → mA τ' 0 7 k = if i ≤ k then (if 2 ≤ k ∧ k ≤ 7 then -9 else 0) else mA τ 0 7 k) ∧ mI τ' 0 9 = 0 ∧ mI τ' 0 12 = 0 ∧ mA τ' 0 11 0 = 0 ∧ mA τ' 0 11 1 = 0 ∧ mI τ' 0 18 = 0 ∧ sameX (fun _ k => k = 7 ∨ k = 9 ∨ k = 11 ∨ k = 12 ∨ k = 18) τ τ' := by
  intro r
  induction r with
  | zero =>
    intro i n τ hi hn
    obtain ⟨n, rfl⟩ : ∃ m, n = m + 1 := ⟨n - 1, by omega⟩
    have g2 : ∀ {α : Type} (x : Option α), gd (inb (0 : Int32) 2) x = x := fun x => rfl
    have g3 : ∀ {α : Type} (x : Option α), gd (inb (1 : Int32) 2) x = x := fun x => rfl
    refine ⟨sI (sA (sA (sI (sI τ 0 9 0) 0 12 0) 0 11 0 0) 0 11 1 0) 0 18 0, ?_, fun k hk => ?_, ?_, ?_, ?_, ?_, ?_, by repeat (first | exact sameX.rf | refine sameX.sI ?_ (by first | rfl | exact Or.inl rfl | exact Or.inr rfl | trivial | decide | omega | simp) _ | refine sameX.sA ?_ (by first | rfl | exact Or.inl rfl | exact Or.inr rfl | trivial | decide | omega | simp) _ _ | refine sameX.sL ?_ (by first | rfl | exact Or.inl rfl | exact Or.inr rfl | trivial | decide | omega | simp) _ | refine sameX.sP ?_ (by first | rfl | exact Or.inl rfl | exact Or.inr rfl | trivial | decide | omega | simp) _ | refine sameX.sB ?_ (by first | rfl | exact Or.inl rfl | exact Or.inr rfl | trivial | decide | omega | simp) _ _)⟩
    · rw [fX6_island_178.eq_2, show (26 : Int32) = nI 26 from rfl, iteLE (by omega) (by omega), if_pos (by omega)]
      rfl
    · rw [if_neg (by omega)]; simp only [mI_sI, mI_sL, mI_sP, mI_sA, mI_sB, mL_sI, mL_sL, mL_sP, mL_sA, mL_sB, mP_sI, mP_sL, mP_sP, mP_sA, mP_sB, mA_sI, mA_sL, mA_sP, mA_sAg, mA_sB, mB_sI, mB_sL, mB_sP, mB_sA, mB_sBg, mE_sI, mE_sL, mE_sP, mE_sA, mE_sB, Nat.reduceEqDiff, Nat.reduceAdd, Nat.reduceMul, Nat.reduceSub, Nat.reduceLT, Nat.reduceLeDiff, Nat.reduceDiv, Nat.reduceMod, Nat.reduceBEq, and_true, true_and, and_false, false_and, and_self, ite_true, ite_false, if_true, if_false, reduceIte, eq_self, not_true, not_false_eq_true, Bool.true_and, Bool.and_true, Bool.false_and, Bool.and_false, Bool.or_true, Bool.true_or, Bool.or_false, Bool.false_or, Bool.not_true, Bool.not_false, reduceCtorEq, upd_e, Nat.add_eq_zero_iff, Nat.add_right_cancel_iff, Nat.add_left_cancel_iff]
    · simp only [mI_sI, mI_sL, mI_sP, mI_sA, mI_sB, mL_sI, mL_sL, mL_sP, mL_sA, mL_sB, mP_sI, mP_sL, mP_sP, mP_sA, mP_sB, mA_sI, mA_sL, mA_sP, mA_sAg, mA_sB, mB_sI, mB_sL, mB_sP, mB_sA, mB_sBg, mE_sI, mE_sL, mE_sP, mE_sA, mE_sB, Nat.reduceEqDiff, Nat.reduceAdd, Nat.reduceMul, Nat.reduceSub, Nat.reduceLT, Nat.reduceLeDiff, Nat.reduceDiv, Nat.reduceMod, Nat.reduceBEq, and_true, true_and, and_false, false_and, and_self, ite_true, ite_false, if_true, if_false, reduceIte, eq_self, not_true, not_false_eq_true, Bool.true_and, Bool.and_true, Bool.false_and, Bool.and_false, Bool.or_true, Bool.true_or, Bool.or_false, Bool.false_or, Bool.not_true, Bool.not_false, reduceCtorEq, upd_e, Nat.add_eq_zero_iff, Nat.add_right_cancel_iff, Nat.add_left_cancel_iff]
    · simp only [mI_sI, mI_sL, mI_sP, mI_sA, mI_sB, mL_sI, mL_sL, mL_sP, mL_sA, mL_sB, mP_sI, mP_sL, mP_sP, mP_sA, mP_sB, mA_sI, mA_sL, mA_sP, mA_sAg, mA_sB, mB_sI, mB_sL, mB_sP, mB_sA, mB_sBg, mE_sI, mE_sL, mE_sP, mE_sA, mE_sB, Nat.reduceEqDiff, Nat.reduceAdd, Nat.reduceMul, Nat.reduceSub, Nat.reduceLT, Nat.reduceLeDiff, Nat.reduceDiv, Nat.reduceMod, Nat.reduceBEq, and_true, true_and, and_false, false_and, and_self, ite_true, ite_false, if_true, if_false, reduceIte, eq_self, not_true, not_false_eq_true, Bool.true_and, Bool.and_true, Bool.false_and, Bool.and_false, Bool.or_true, Bool.true_or, Bool.or_false, Bool.false_or, Bool.not_true, Bool.not_false, reduceCtorEq, upd_e, Nat.add_eq_zero_iff, Nat.add_right_cancel_iff, Nat.add_left_cancel_iff]
    · simp only [mI_sI, mI_sL, mI_sP, mI_sA, mI_sB, mL_sI, mL_sL, mL_sP, mL_sA, mL_sB, mP_sI, mP_sL, mP_sP, mP_sA, mP_sB, mA_sI, mA_sL, mA_sP, mA_sAg, mA_sB, mB_sI, mB_sL, mB_sP, mB_sA, mB_sBg, mE_sI, mE_sL, mE_sP, mE_sA, mE_sB, Nat.reduceEqDiff, Nat.reduceAdd, Nat.reduceMul, Nat.reduceSub, Nat.reduceLT, Nat.reduceLeDiff, Nat.reduceDiv, Nat.reduceMod, Nat.reduceBEq, and_true, true_and, and_false, false_and, and_self, ite_true, ite_false, if_true, if_false, reduceIte, eq_self, not_true, not_false_eq_true, Bool.true_and, Bool.and_true, Bool.false_and, Bool.and_false, Bool.or_true, Bool.true_or, Bool.or_false, Bool.false_or, Bool.not_true, Bool.not_false, reduceCtorEq, upd_e, Nat.add_eq_zero_iff, Nat.add_right_cancel_iff, Nat.add_left_cancel_iff]
    · simp only [mI_sI, mI_sL, mI_sP, mI_sA, mI_sB, mL_sI, mL_sL, mL_sP, mL_sA, mL_sB, mP_sI, mP_sL, mP_sP, mP_sA, mP_sB, mA_sI, mA_sL, mA_sP, mA_sAg, mA_sB, mB_sI, mB_sL, mB_sP, mB_sA, mB_sBg, mE_sI, mE_sL, mE_sP, mE_sA, mE_sB, Nat.reduceEqDiff, Nat.reduceAdd, Nat.reduceMul, Nat.reduceSub, Nat.reduceLT, Nat.reduceLeDiff, Nat.reduceDiv, Nat.reduceMod, Nat.reduceBEq, and_true, true_and, and_false, false_and, and_self, ite_true, ite_false, if_true, if_false, reduceIte, eq_self, not_true, not_false_eq_true, Bool.true_and, Bool.and_true, Bool.false_and, Bool.and_false, Bool.or_true, Bool.true_or, Bool.or_false, Bool.false_or, Bool.not_true, Bool.not_false, reduceCtorEq, upd_e, Nat.add_eq_zero_iff, Nat.add_right_cancel_iff, Nat.add_left_cancel_iff]
    · simp only [mI_sI, mI_sL, mI_sP, mI_sA, mI_sB, mL_sI, mL_sL, mL_sP, mL_sA, mL_sB, mP_sI, mP_sL, mP_sP, mP_sA, mP_sB, mA_sI, mA_sL, mA_sP, mA_sAg, mA_sB, mB_sI, mB_sL, mB_sP, mB_sA, mB_sBg, mE_sI, mE_sL, mE_sP, mE_sA, mE_sB, Nat.reduceEqDiff, Nat.reduceAdd, Nat.reduceMul, Nat.reduceSub, Nat.reduceLT, Nat.reduceLeDiff, Nat.reduceDiv, Nat.reduceMod, Nat.reduceBEq, and_true, true_and, and_false, false_and, and_self, ite_true, ite_false, if_true, if_false, reduceIte, eq_self, not_true, not_false_eq_true, Bool.true_and, Bool.and_true, Bool.false_and, Bool.and_false, Bool.or_true, Bool.true_or, Bool.or_false, Bool.false_or, Bool.not_true, Bool.not_false, reduceCtorEq, upd_e, Nat.add_eq_zero_iff, Nat.add_right_cancel_iff, Nat.add_left_cancel_iff]
  | succ r ih =>
    intro i n τ hi hn
    obtain ⟨n, rfl⟩ : ∃ m, n = m + 1 := ⟨n - 1, by omega⟩
    have go : ∀ v : Int32, v = (if 2 ≤ i ∧ i ≤ 7 then -9 else 0) → ∃ τ', fX6_island_178 0 n (sA τ 0 7 i v) x1 (nI (i + 1)) = some (x1, τ') ∧ (∀ k, k < 26 → mA τ' 0 7 k = if i ≤ k then (if 2 ≤ k ∧ k ≤ 7 then -9 else 0) else mA τ 0 7 k) ∧ mI τ' 0 9 = 0 ∧ mI τ' 0 12 = 0 ∧ mA τ' 0 11 0 = 0 ∧ mA τ' 0 11 1 = 0 ∧ mI τ' 0 18 = 0 ∧ sameX (fun _ k => k = 7 ∨ k = 9 ∨ k = 11 ∨ k = 12 ∨ k = 18) τ τ' := fun v hv => by
      obtain ⟨τ', a1, a2, a3⟩ := ih (i + 1) n (sA τ 0 7 i v) (by omega) (by omega)
      refine ⟨τ', a1, fun k hk => ?_, a3.1, a3.2.1, a3.2.2.1, a3.2.2.2.1, a3.2.2.2.2.1, sameX.tr (by repeat (first | exact sameX.rf | refine sameX.sI ?_ (by first | rfl | exact Or.inl rfl | exact Or.inr rfl | trivial | decide | omega | simp) _ | refine sameX.sA ?_ (by first | rfl | exact Or.inl rfl | exact Or.inr rfl | trivial | decide | omega | simp) _ _ | refine sameX.sL ?_ (by first | rfl | exact Or.inl rfl | exact Or.inr rfl | trivial | decide | omega | simp) _ | refine sameX.sP ?_ (by first | rfl | exact Or.inl rfl | exact Or.inr rfl | trivial | decide | omega | simp) _ | refine sameX.sB ?_ (by first | rfl | exact Or.inl rfl | exact Or.inr rfl | trivial | decide | omega | simp) _ _)) a3.2.2.2.2.2⟩
      rw [a2 k hk]
      by_cases e : k = i
      · rw [e, if_neg (by omega), if_pos (Nat.le_refl i)]
        simp only [mI_sI, mI_sL, mI_sP, mI_sA, mI_sB, mL_sI, mL_sL, mL_sP, mL_sA, mL_sB, mP_sI, mP_sL, mP_sP, mP_sA, mP_sB, mA_sI, mA_sL, mA_sP, mA_sAg, mA_sB, mB_sI, mB_sL, mB_sP, mB_sA, mB_sBg, mE_sI, mE_sL, mE_sP, mE_sA, mE_sB, Nat.reduceEqDiff, Nat.reduceAdd, Nat.reduceMul, Nat.reduceSub, Nat.reduceLT, Nat.reduceLeDiff, Nat.reduceDiv, Nat.reduceMod, Nat.reduceBEq, and_true, true_and, and_false, false_and, and_self, ite_true, ite_false, if_true, if_false, reduceIte, eq_self, not_true, not_false_eq_true, Bool.true_and, Bool.and_true, Bool.false_and, Bool.and_false, Bool.or_true, Bool.true_or, Bool.or_false, Bool.false_or, Bool.not_true, Bool.not_false, reduceCtorEq, upd_e, Nat.add_eq_zero_iff, Nat.add_right_cancel_iff, Nat.add_left_cancel_iff]; exact hv
      · by_cases e2 : i + 1 ≤ k
        · rw [if_pos e2, if_pos (show i ≤ k by omega)]
        · rw [if_neg e2, if_neg (show ¬ i ≤ k by omega)]
          simp only [mI_sI, mI_sL, mI_sP, mI_sA, mI_sB, mL_sI, mL_sL, mL_sP, mL_sA, mL_sB, mP_sI, mP_sL, mP_sP, mP_sA, mP_sB, mA_sI, mA_sL, mA_sP, mA_sAg, mA_sB, mB_sI, mB_sL, mB_sP, mB_sA, mB_sBg, mE_sI, mE_sL, mE_sP, mE_sA, mE_sB, Nat.reduceEqDiff, Nat.reduceAdd, Nat.reduceMul, Nat.reduceSub, Nat.reduceLT, Nat.reduceLeDiff, Nat.reduceDiv, Nat.reduceMod, Nat.reduceBEq, and_true, true_and, and_false, false_and, and_self, ite_true, ite_false, if_true, if_false, reduceIte, eq_self, not_true, not_false_eq_true, Bool.true_and, Bool.and_true, Bool.false_and, Bool.and_false, Bool.or_true, Bool.true_or, Bool.or_false, Bool.false_or, Bool.not_true, Bool.not_false, reduceCtorEq, upd_e, Nat.add_eq_zero_iff, Nat.add_right_cancel_iff, Nat.add_left_cancel_iff]; rw [if_neg e]
    rw [fX6_island_178.eq_2, show (26 : Int32) = nI 26 from rfl, iteLE (by omega) (by omega), if_neg (by omega), nI_1]
    by_cases e : 2 ≤ i ∧ i ≤ 7
    · have ein : fX6_in (nI i) (2 : Int32) (7 : Int32) = some 1 := inr_yes (a := 2) (b := 7) e.1 e.2 (by decide)
      rw [ein, bd_s, if_neg (show ¬ (1 : Int32) = 0 by decide), gd_in (show i < 26 by omega) (by decide), clampN (by omega), stp_s]
      exact go _ (by rw [if_pos e])
    · have ein : fX6_in (nI i) (2 : Int32) (7 : Int32) = some 0 := by
        refine inr_no (a := 2) (b := 7) ?_
        rw [ltN (by omega) (by omega), ltN (by omega) (by omega)]
        omega
      rw [ein, bd_s, if_pos rfl, gd_in (show i < 26 by omega) (by decide), clampN (by omega), stp_s]
      exact go _ (by rw [if_neg e])
theorem M_140 {x1 : Int32} : ∀ (r i n : Nat) (τ : Mem), i + r = 12 → r < n → ∃ τ', fX6_island_140 0 n τ x1 (nI i) = fX6_island_178 0 FU τ' x1 0 ∧ (∀ k, i ≤ k → k < 12 → mA τ' 0 4 k = mA τ 0 25 k ∧ mA τ' 0 6 k = mA τ 0 27 k) ∧ (∀ k, k < i → mA τ' 0 4 k = mA τ 0 4 k ∧ mA τ' 0 6 k = mA τ 0 6 k) ∧ sameX (fun _ k => k = 4 ∨ k = 6) τ τ' := by
  intro r
  induction r with
  | zero =>
    intro i n τ hi hn
    obtain ⟨n, rfl⟩ : ∃ m, n = m + 1 := ⟨n - 1, by omega⟩
    refine ⟨τ, ?_, fun k h1 h2 => by omega, fun k _ => ⟨rfl, rfl⟩, sameX.rf⟩
    rw [fX6_island_140.eq_2, show (12 : Int32) = nI 12 from rfl, iteLE (by omega) (by omega), if_pos (by omega)]
  | succ r ih =>
    intro i n τ hi hn
    obtain ⟨n, rfl⟩ : ∃ m, n = m + 1 := ⟨n - 1, by omega⟩
    have e27 : mA (sA τ 0 4 i (mA τ 0 25 i)) 0 27 i = mA τ 0 27 i := by simp only [mI_sI, mI_sL, mI_sP, mI_sA, mI_sB, mL_sI, mL_sL, mL_sP, mL_sA, mL_sB, mP_sI, mP_sL, mP_sP, mP_sA, mP_sB, mA_sI, mA_sL, mA_sP, mA_sAg, mA_sB, mB_sI, mB_sL, mB_sP, mB_sA, mB_sBg, mE_sI, mE_sL, mE_sP, mE_sA, mE_sB, Nat.reduceEqDiff, Nat.reduceAdd, Nat.reduceMul, Nat.reduceSub, Nat.reduceLT, Nat.reduceLeDiff, Nat.reduceDiv, Nat.reduceMod, Nat.reduceBEq, and_true, true_and, and_false, false_and, and_self, ite_true, ite_false, if_true, if_false, reduceIte, eq_self, not_true, not_false_eq_true, Bool.true_and, Bool.and_true, Bool.false_and, Bool.and_false, Bool.or_true, Bool.true_or, Bool.or_false, Bool.false_or, Bool.not_true, Bool.not_false, reduceCtorEq, upd_e, Nat.add_eq_zero_iff, Nat.add_right_cancel_iff, Nat.add_left_cancel_iff]
    obtain ⟨τ', a1, a2, a3, a4⟩ := ih (i + 1) n (sA (sA τ 0 4 i (mA τ 0 25 i)) 0 6 i (mA τ 0 27 i)) (by omega) (by omega)
    refine ⟨τ', ?_, fun k h1 h2 => ?_, fun k h1 => ?_, sameX.tr (by repeat (first | exact sameX.rf | refine sameX.sI ?_ (by first | rfl | exact Or.inl rfl | exact Or.inr rfl | trivial | decide | omega | simp) _ | refine sameX.sA ?_ (by first | rfl | exact Or.inl rfl | exact Or.inr rfl | trivial | decide | omega | simp) _ _ | refine sameX.sL ?_ (by first | rfl | exact Or.inl rfl | exact Or.inr rfl | trivial | decide | omega | simp) _ | refine sameX.sP ?_ (by first | rfl | exact Or.inl rfl | exact Or.inr rfl | trivial | decide | omega | simp) _ | refine sameX.sB ?_ (by first | rfl | exact Or.inl rfl | exact Or.inr rfl | trivial | decide | omega | simp) _ _)) a4⟩
    · rw [fX6_island_140.eq_2, show (12 : Int32) = nI 12 from rfl, iteLE (by omega) (by omega), if_neg (by omega), gd_in (show i < 12 by omega) (by decide), gd_in (show i < 12 by omega) (by decide), clampN (by omega), stp_s, gd_in (show i < 12 by omega) (by decide), gd_in (show i < 12 by omega) (by decide), stp_s, nI_1, e27]
      exact a1
    · by_cases e : k = i
      · obtain ⟨z1, z2⟩ := a3 k (by omega)
        rw [z1, z2, e]
        simp only [mI_sI, mI_sL, mI_sP, mI_sA, mI_sB, mL_sI, mL_sL, mL_sP, mL_sA, mL_sB, mP_sI, mP_sL, mP_sP, mP_sA, mP_sB, mA_sI, mA_sL, mA_sP, mA_sAg, mA_sB, mB_sI, mB_sL, mB_sP, mB_sA, mB_sBg, mE_sI, mE_sL, mE_sP, mE_sA, mE_sB, Nat.reduceEqDiff, Nat.reduceAdd, Nat.reduceMul, Nat.reduceSub, Nat.reduceLT, Nat.reduceLeDiff, Nat.reduceDiv, Nat.reduceMod, Nat.reduceBEq, and_true, true_and, and_false, false_and, and_self, ite_true, ite_false, if_true, if_false, reduceIte, eq_self, not_true, not_false_eq_true, Bool.true_and, Bool.and_true, Bool.false_and, Bool.and_false, Bool.or_true, Bool.true_or, Bool.or_false, Bool.false_or, Bool.not_true, Bool.not_false, reduceCtorEq, upd_e, Nat.add_eq_zero_iff, Nat.add_right_cancel_iff, Nat.add_left_cancel_iff]
      · obtain ⟨z1, z2⟩ := a2 k (by omega) h2
        rw [z1, z2]
        simp only [mI_sI, mI_sL, mI_sP, mI_sA, mI_sB, mL_sI, mL_sL, mL_sP, mL_sA, mL_sB, mP_sI, mP_sL, mP_sP, mP_sA, mP_sB, mA_sI, mA_sL, mA_sP, mA_sAg, mA_sB, mB_sI, mB_sL, mB_sP, mB_sA, mB_sBg, mE_sI, mE_sL, mE_sP, mE_sA, mE_sB, Nat.reduceEqDiff, Nat.reduceAdd, Nat.reduceMul, Nat.reduceSub, Nat.reduceLT, Nat.reduceLeDiff, Nat.reduceDiv, Nat.reduceMod, Nat.reduceBEq, and_true, true_and, and_false, false_and, and_self, ite_true, ite_false, if_true, if_false, reduceIte, eq_self, not_true, not_false_eq_true, Bool.true_and, Bool.and_true, Bool.false_and, Bool.and_false, Bool.or_true, Bool.true_or, Bool.or_false, Bool.false_or, Bool.not_true, Bool.not_false, reduceCtorEq, upd_e, Nat.add_eq_zero_iff, Nat.add_right_cancel_iff, Nat.add_left_cancel_iff]
    · obtain ⟨z1, z2⟩ := a3 k (by omega)
      rw [z1, z2]
      simp only [mI_sI, mI_sL, mI_sP, mI_sA, mI_sB, mL_sI, mL_sL, mL_sP, mL_sA, mL_sB, mP_sI, mP_sL, mP_sP, mP_sA, mP_sB, mA_sI, mA_sL, mA_sP, mA_sAg, mA_sB, mB_sI, mB_sL, mB_sP, mB_sA, mB_sBg, mE_sI, mE_sL, mE_sP, mE_sA, mE_sB, Nat.reduceEqDiff, Nat.reduceAdd, Nat.reduceMul, Nat.reduceSub, Nat.reduceLT, Nat.reduceLeDiff, Nat.reduceDiv, Nat.reduceMod, Nat.reduceBEq, and_true, true_and, and_false, false_and, and_self, ite_true, ite_false, if_true, if_false, reduceIte, eq_self, not_true, not_false_eq_true, Bool.true_and, Bool.and_true, Bool.false_and, Bool.and_false, Bool.or_true, Bool.true_or, Bool.or_false, Bool.false_or, Bool.not_true, Bool.not_false, reduceCtorEq, upd_e, Nat.add_eq_zero_iff, Nat.add_right_cancel_iff, Nat.add_left_cancel_iff]
      rw [if_neg (by omega), if_neg (by omega)]
      exact ⟨rfl, rfl⟩
theorem CSq.draft {σ σ' : Mem} {q q2 : Nat} {A : AS} (h : CSq σ q q2 A) (hs : sameX (FCi q2) σ σ') : CSq σ' q q2 A := by
  obtain ⟨h1, h2, h3, h4, h5, h6, h7, h8⟩ := id h
  have hq := h.q
  exact ⟨h1.keep hs (fun k hk => by omega) ⟨by omega, by omega⟩, h2.keep hs (fun k => by omega), h3.keep hs ⟨by omega, by omega⟩, h4.keep hs (fun k => by omega), h5.keep hs (by omega) (fun j hj k => by omega), h6.keep hs ⟨by omega, by omega⟩ (fun j hj k => by omega), h7.keep hs ⟨by omega, by omega, by omega⟩, by rw [(hs 0 13 (by omega)).2.1]; exact h8⟩
def newA (A : AS) (I : IV) : AS := (I, (0, fun _ => 0), N0, fun _ => none, (0, fun _ => N0), (0, 0, fun _ _ => 0, fun _ => 0), aT A)
theorem newA_ok {A : AS} {I : IV} (ok : IOK I) : AOK (newA A I) :=
  ⟨ok, ⟨Nat.zero_le _, fun i h => absurd h (Nat.not_lt_zero i)⟩, N0_ok _ _, fun j _ N h => (by cases h), Nat.zero_le _, fun i h => absurd h (Nat.not_lt_zero i), ⟨Nat.zero_le _, fun h => absurd h (Nat.lt_irrefl 0), fun b h => absurd h (Nat.not_lt_zero b), fun b h => absurd h (Nat.not_lt_zero b)⟩⟩
def D0r : DV := ((10, 2, 1, 0, 0, fun _ => 0, fun _ => 0, fun _ => 0, fun _ => 0, fun _ => 0), fun _ => false)
theorem D0_ok : IOK D0r.1 := ⟨⟨by decide, by decide⟩, ⟨by decide, by decide⟩, ⟨by decide, by decide⟩, by decide, by decide, fun t h => absurd h (Nat.not_lt_zero t), fun t h => absurd h (Nat.not_lt_zero t)⟩
theorem fl3_0 : nI (bs6 (fl3 D0r.2)) = 0 := by decide
theorem C_isl_fin {σ : Mem} {q q2 : Nat} {A : AS} {D : DV} (hC : CSq σ q q2 A) (hD : CDr σ q2 D) {m : Nat} (hm : m ≤ 200) : ∃ σ', (if 0 ≤ nI m then stp (sP σ 0 1 (mP σ 0 2)) fun σ25 => stp (sP σ25 0 2 (mP σ 0 1)) fun σ26 => stp (sI σ26 (mP σ26 0 0) 0 (0 : Int32)) fun σ28 => bd (fX2_beginAnew σ28 (mP σ28 0 3)) fun σ30 => stp (sI σ30 (mP σ30 0 4) 0 (0 : Int32)) fun σ32 => stp (sI σ32 0 6 (0 : Int32)) fun σ33 => stp (sI σ33 0 10 (0 : Int32)) fun σ34 => some (nI m, σ34) else some (nI m, σ)) = some (nI m, σ') ∧ CSq σ' q2 q (newA A D.1) := by
  have hq := hC.q
  obtain ⟨p0, p3, p4, p7, p1, p2, hqq, hE0, hE5⟩ := hC.1
  have s28 : sameX (fun o k => o = 0 ∨ o = 1) σ (sI (sP (sP σ 0 1 q2) 0 2 q) 1 0 0) := by repeat (first | exact sameX.rf | refine sameX.sI ?_ (by first | rfl | exact Or.inl rfl | exact Or.inr rfl | trivial | decide | omega | simp) _ | refine sameX.sA ?_ (by first | rfl | exact Or.inl rfl | exact Or.inr rfl | trivial | decide | omega | simp) _ _ | refine sameX.sL ?_ (by first | rfl | exact Or.inl rfl | exact Or.inr rfl | trivial | decide | omega | simp) _ | refine sameX.sP ?_ (by first | rfl | exact Or.inl rfl | exact Or.inr rfl | trivial | decide | omega | simp) _ | refine sameX.sB ?_ (by first | rfl | exact Or.inl rfl | exact Or.inr rfl | trivial | decide | omega | simp) _ _)
  obtain ⟨σ30, e30, n30, s30⟩ := NC.beginAnew (σ := sI (sP (sP σ 0 1 q2) 0 2 q) 1 0 0) (o := 4)
  have a0 : mP (sP (sP σ 0 1 q2) 0 2 q) 0 0 = 1 := by simp only [mI_sI, mI_sL, mI_sP, mI_sA, mI_sB, mL_sI, mL_sL, mL_sP, mL_sA, mL_sB, mP_sI, mP_sL, mP_sP, mP_sA, mP_sB, mA_sI, mA_sL, mA_sP, mA_sAg, mA_sB, mB_sI, mB_sL, mB_sP, mB_sA, mB_sBg, mE_sI, mE_sL, mE_sP, mE_sA, mE_sB, Nat.reduceEqDiff, Nat.reduceAdd, Nat.reduceMul, Nat.reduceSub, Nat.reduceLT, Nat.reduceLeDiff, Nat.reduceDiv, Nat.reduceMod, Nat.reduceBEq, and_true, true_and, and_false, false_and, and_self, ite_true, ite_false, if_true, if_false, reduceIte, eq_self, not_true, not_false_eq_true, Bool.true_and, Bool.and_true, Bool.false_and, Bool.and_false, Bool.or_true, Bool.true_or, Bool.or_false, Bool.false_or, Bool.not_true, Bool.not_false, reduceCtorEq, upd_e, Nat.add_eq_zero_iff, Nat.add_right_cancel_iff, Nat.add_left_cancel_iff]; exact p0
  have a3 : mP (sI (sP (sP σ 0 1 q2) 0 2 q) 1 0 0) 0 3 = 4 := by simp only [mI_sI, mI_sL, mI_sP, mI_sA, mI_sB, mL_sI, mL_sL, mL_sP, mL_sA, mL_sB, mP_sI, mP_sL, mP_sP, mP_sA, mP_sB, mA_sI, mA_sL, mA_sP, mA_sAg, mA_sB, mB_sI, mB_sL, mB_sP, mB_sA, mB_sBg, mE_sI, mE_sL, mE_sP, mE_sA, mE_sB, Nat.reduceEqDiff, Nat.reduceAdd, Nat.reduceMul, Nat.reduceSub, Nat.reduceLT, Nat.reduceLeDiff, Nat.reduceDiv, Nat.reduceMod, Nat.reduceBEq, and_true, true_and, and_false, false_and, and_self, ite_true, ite_false, if_true, if_false, reduceIte, eq_self, not_true, not_false_eq_true, Bool.true_and, Bool.and_true, Bool.false_and, Bool.and_false, Bool.or_true, Bool.true_or, Bool.or_false, Bool.false_or, Bool.not_true, Bool.not_false, reduceCtorEq, upd_e, Nat.add_eq_zero_iff, Nat.add_right_cancel_iff, Nat.add_left_cancel_iff]; exact p3
  have aP : ∀ k, mP σ30 0 k = mP (sP (sP σ 0 1 q2) 0 2 q) 0 k := fun k => by rw [(s30 0 k (by omega)).2.2.1]; rfl
  have a4 : mP σ30 0 4 = 5 := by rw [aP]; simp only [mI_sI, mI_sL, mI_sP, mI_sA, mI_sB, mL_sI, mL_sL, mL_sP, mL_sA, mL_sB, mP_sI, mP_sL, mP_sP, mP_sA, mP_sB, mA_sI, mA_sL, mA_sP, mA_sAg, mA_sB, mB_sI, mB_sL, mB_sP, mB_sA, mB_sBg, mE_sI, mE_sL, mE_sP, mE_sA, mE_sB, Nat.reduceEqDiff, Nat.reduceAdd, Nat.reduceMul, Nat.reduceSub, Nat.reduceLT, Nat.reduceLeDiff, Nat.reduceDiv, Nat.reduceMod, Nat.reduceBEq, and_true, true_and, and_false, false_and, and_self, ite_true, ite_false, if_true, if_false, reduceIte, eq_self, not_true, not_false_eq_true, Bool.true_and, Bool.and_true, Bool.false_and, Bool.and_false, Bool.or_true, Bool.true_or, Bool.or_false, Bool.false_or, Bool.not_true, Bool.not_false, reduceCtorEq, upd_e, Nat.add_eq_zero_iff, Nat.add_right_cancel_iff, Nat.add_left_cancel_iff]; exact p4
  refine ⟨sI (sI (sI σ30 5 0 0) 0 6 0) 0 10 0, ?_, ?_⟩
  · rw [if_pos (nI_pos' (by omega)), p2, p1]
    simp only [stp_s]
    rw [a0, a3, e30, bd_s, a4]
  · have sF : sameX (fun o k => (o = 0 ∧ (k = 1 ∨ k = 2 ∨ k = 6 ∨ k = 10)) ∨ (o = 1 ∧ k = 0) ∨ o = 4 ∨ (o = 5 ∧ k = 0)) σ (sI (sI (sI σ30 5 0 0) 0 6 0) 0 10 0) := by
      have z1 : sameX (fun o k => (o = 0 ∧ (k = 1 ∨ k = 2 ∨ k = 6 ∨ k = 10)) ∨ (o = 1 ∧ k = 0) ∨ o = 4 ∨ (o = 5 ∧ k = 0)) σ (sI (sP (sP σ 0 1 q2) 0 2 q) 1 0 0) := ((sameX.rf.sP (by omega) _).sP (by omega) _).sI (by omega) _
      exact (((z1.tr (s30.mono (fun o k h => by omega))).sI (by omega) _).sI (by omega) _).sI (by omega) _
    have bP : ∀ k, mP (sI (sI (sI σ30 5 0 0) 0 6 0) 0 10 0) 0 k = mP (sP (sP σ 0 1 q2) 0 2 q) 0 k := fun k => aP k
    obtain ⟨x, hx, -, hx1, -⟩ := hC.2.2.2.2.2.1
    refine ⟨⟨?_, ?_, ?_, ?_, ?_, ?_, by omega, fun i hi => ?_, fun i hi => ?_⟩, hD.1.keep sF (fun k => by omega), ⟨?_, fun i h => absurd h (Nat.not_lt_zero i)⟩, n30.keep (F := fun o _ => o = 5 ∨ o = 0) (by repeat (first | exact sameX.rf | refine sameX.sI ?_ (by first | rfl | exact Or.inl rfl | exact Or.inr rfl | trivial | decide | omega | simp) _ | refine sameX.sA ?_ (by first | rfl | exact Or.inl rfl | exact Or.inr rfl | trivial | decide | omega | simp) _ _ | refine sameX.sL ?_ (by first | rfl | exact Or.inl rfl | exact Or.inr rfl | trivial | decide | omega | simp) _ | refine sameX.sP ?_ (by first | rfl | exact Or.inl rfl | exact Or.inr rfl | trivial | decide | omega | simp) _ | refine sameX.sB ?_ (by first | rfl | exact Or.inl rfl | exact Or.inr rfl | trivial | decide | omega | simp) _ _)) (fun k => by omega), ⟨?_, fun j _ N h => (by cases h)⟩, ⟨x, hx, ?_, ?_, fun i h => absurd h (Nat.not_lt_zero i)⟩, ⟨?_, fun b h => absurd h (Nat.not_lt_zero b), fun b h => absurd h (Nat.not_lt_zero b)⟩, ?_⟩
    · rw [bP]; exact a0
    · rw [bP]; simp only [mI_sI, mI_sL, mI_sP, mI_sA, mI_sB, mL_sI, mL_sL, mL_sP, mL_sA, mL_sB, mP_sI, mP_sL, mP_sP, mP_sA, mP_sB, mA_sI, mA_sL, mA_sP, mA_sAg, mA_sB, mB_sI, mB_sL, mB_sP, mB_sA, mB_sBg, mE_sI, mE_sL, mE_sP, mE_sA, mE_sB, Nat.reduceEqDiff, Nat.reduceAdd, Nat.reduceMul, Nat.reduceSub, Nat.reduceLT, Nat.reduceLeDiff, Nat.reduceDiv, Nat.reduceMod, Nat.reduceBEq, and_true, true_and, and_false, false_and, and_self, ite_true, ite_false, if_true, if_false, reduceIte, eq_self, not_true, not_false_eq_true, Bool.true_and, Bool.and_true, Bool.false_and, Bool.and_false, Bool.or_true, Bool.true_or, Bool.or_false, Bool.false_or, Bool.not_true, Bool.not_false, reduceCtorEq, upd_e, Nat.add_eq_zero_iff, Nat.add_right_cancel_iff, Nat.add_left_cancel_iff]; exact p3
    · rw [bP]; simp only [mI_sI, mI_sL, mI_sP, mI_sA, mI_sB, mL_sI, mL_sL, mL_sP, mL_sA, mL_sB, mP_sI, mP_sL, mP_sP, mP_sA, mP_sB, mA_sI, mA_sL, mA_sP, mA_sAg, mA_sB, mB_sI, mB_sL, mB_sP, mB_sA, mB_sBg, mE_sI, mE_sL, mE_sP, mE_sA, mE_sB, Nat.reduceEqDiff, Nat.reduceAdd, Nat.reduceMul, Nat.reduceSub, Nat.reduceLT, Nat.reduceLeDiff, Nat.reduceDiv, Nat.reduceMod, Nat.reduceBEq, and_true, true_and, and_false, false_and, and_self, ite_true, ite_false, if_true, if_false, reduceIte, eq_self, not_true, not_false_eq_true, Bool.true_and, Bool.and_true, Bool.false_and, Bool.and_false, Bool.or_true, Bool.true_or, Bool.or_false, Bool.false_or, Bool.not_true, Bool.not_false, reduceCtorEq, upd_e, Nat.add_eq_zero_iff, Nat.add_right_cancel_iff, Nat.add_left_cancel_iff]; exact p4
    · rw [bP]; simp only [mI_sI, mI_sL, mI_sP, mI_sA, mI_sB, mL_sI, mL_sL, mL_sP, mL_sA, mL_sB, mP_sI, mP_sL, mP_sP, mP_sA, mP_sB, mA_sI, mA_sL, mA_sP, mA_sAg, mA_sB, mB_sI, mB_sL, mB_sP, mB_sA, mB_sBg, mE_sI, mE_sL, mE_sP, mE_sA, mE_sB, Nat.reduceEqDiff, Nat.reduceAdd, Nat.reduceMul, Nat.reduceSub, Nat.reduceLT, Nat.reduceLeDiff, Nat.reduceDiv, Nat.reduceMod, Nat.reduceBEq, and_true, true_and, and_false, false_and, and_self, ite_true, ite_false, if_true, if_false, reduceIte, eq_self, not_true, not_false_eq_true, Bool.true_and, Bool.and_true, Bool.false_and, Bool.and_false, Bool.or_true, Bool.true_or, Bool.or_false, Bool.false_or, Bool.not_true, Bool.not_false, reduceCtorEq, upd_e, Nat.add_eq_zero_iff, Nat.add_right_cancel_iff, Nat.add_left_cancel_iff]; exact p7
    · rw [bP]; simp only [mI_sI, mI_sL, mI_sP, mI_sA, mI_sB, mL_sI, mL_sL, mL_sP, mL_sA, mL_sB, mP_sI, mP_sL, mP_sP, mP_sA, mP_sB, mA_sI, mA_sL, mA_sP, mA_sAg, mA_sB, mB_sI, mB_sL, mB_sP, mB_sA, mB_sBg, mE_sI, mE_sL, mE_sP, mE_sA, mE_sB, Nat.reduceEqDiff, Nat.reduceAdd, Nat.reduceMul, Nat.reduceSub, Nat.reduceLT, Nat.reduceLeDiff, Nat.reduceDiv, Nat.reduceMod, Nat.reduceBEq, and_true, true_and, and_false, false_and, and_self, ite_true, ite_false, if_true, if_false, reduceIte, eq_self, not_true, not_false_eq_true, Bool.true_and, Bool.and_true, Bool.false_and, Bool.and_false, Bool.or_true, Bool.true_or, Bool.or_false, Bool.false_or, Bool.not_true, Bool.not_false, reduceCtorEq, upd_e, Nat.add_eq_zero_iff, Nat.add_right_cancel_iff, Nat.add_left_cancel_iff]
    · rw [bP]; simp only [mI_sI, mI_sL, mI_sP, mI_sA, mI_sB, mL_sI, mL_sL, mL_sP, mL_sA, mL_sB, mP_sI, mP_sL, mP_sP, mP_sA, mP_sB, mA_sI, mA_sL, mA_sP, mA_sAg, mA_sB, mB_sI, mB_sL, mB_sP, mB_sA, mB_sBg, mE_sI, mE_sL, mE_sP, mE_sA, mE_sB, Nat.reduceEqDiff, Nat.reduceAdd, Nat.reduceMul, Nat.reduceSub, Nat.reduceLT, Nat.reduceLeDiff, Nat.reduceDiv, Nat.reduceMod, Nat.reduceBEq, and_true, true_and, and_false, false_and, and_self, ite_true, ite_false, if_true, if_false, reduceIte, eq_self, not_true, not_false_eq_true, Bool.true_and, Bool.and_true, Bool.false_and, Bool.and_false, Bool.or_true, Bool.true_or, Bool.or_false, Bool.false_or, Bool.not_true, Bool.not_false, reduceCtorEq, upd_e, Nat.add_eq_zero_iff, Nat.add_right_cancel_iff, Nat.add_left_cancel_iff]
    · rw [(sF 0 5 (by omega)).2.2.2.2.2]; exact hE0 i hi
    · rw [(sF 5 2 (by omega)).2.2.2.2.2]; exact hE5 i hi
    · simp only [mI_sI, mI_sL, mI_sP, mI_sA, mI_sB, mL_sI, mL_sL, mL_sP, mL_sA, mL_sB, mP_sI, mP_sL, mP_sP, mP_sA, mP_sB, mA_sI, mA_sL, mA_sP, mA_sAg, mA_sB, mB_sI, mB_sL, mB_sP, mB_sA, mB_sBg, mE_sI, mE_sL, mE_sP, mE_sA, mE_sB, Nat.reduceEqDiff, Nat.reduceAdd, Nat.reduceMul, Nat.reduceSub, Nat.reduceLT, Nat.reduceLeDiff, Nat.reduceDiv, Nat.reduceMod, Nat.reduceBEq, and_true, true_and, and_false, false_and, and_self, ite_true, ite_false, if_true, if_false, reduceIte, eq_self, not_true, not_false_eq_true, Bool.true_and, Bool.and_true, Bool.false_and, Bool.and_false, Bool.or_true, Bool.true_or, Bool.or_false, Bool.false_or, Bool.not_true, Bool.not_false, reduceCtorEq, upd_e, Nat.add_eq_zero_iff, Nat.add_right_cancel_iff, Nat.add_left_cancel_iff]; rw [(s30 1 0 (by omega)).1]; simp only [mI_sI, mI_sL, mI_sP, mI_sA, mI_sB, mL_sI, mL_sL, mL_sP, mL_sA, mL_sB, mP_sI, mP_sL, mP_sP, mP_sA, mP_sB, mA_sI, mA_sL, mA_sP, mA_sAg, mA_sB, mB_sI, mB_sL, mB_sP, mB_sA, mB_sBg, mE_sI, mE_sL, mE_sP, mE_sA, mE_sB, Nat.reduceEqDiff, Nat.reduceAdd, Nat.reduceMul, Nat.reduceSub, Nat.reduceLT, Nat.reduceLeDiff, Nat.reduceDiv, Nat.reduceMod, Nat.reduceBEq, and_true, true_and, and_false, false_and, and_self, ite_true, ite_false, if_true, if_false, reduceIte, eq_self, not_true, not_false_eq_true, Bool.true_and, Bool.and_true, Bool.false_and, Bool.and_false, Bool.or_true, Bool.true_or, Bool.or_false, Bool.false_or, Bool.not_true, Bool.not_false, reduceCtorEq, upd_e, Nat.add_eq_zero_iff, Nat.add_right_cancel_iff, Nat.add_left_cancel_iff]; rfl
    · simp only [mI_sI, mI_sL, mI_sP, mI_sA, mI_sB, mL_sI, mL_sL, mL_sP, mL_sA, mL_sB, mP_sI, mP_sL, mP_sP, mP_sA, mP_sB, mA_sI, mA_sL, mA_sP, mA_sAg, mA_sB, mB_sI, mB_sL, mB_sP, mB_sA, mB_sBg, mE_sI, mE_sL, mE_sP, mE_sA, mE_sB, Nat.reduceEqDiff, Nat.reduceAdd, Nat.reduceMul, Nat.reduceSub, Nat.reduceLT, Nat.reduceLeDiff, Nat.reduceDiv, Nat.reduceMod, Nat.reduceBEq, and_true, true_and, and_false, false_and, and_self, ite_true, ite_false, if_true, if_false, reduceIte, eq_self, not_true, not_false_eq_true, Bool.true_and, Bool.and_true, Bool.false_and, Bool.and_false, Bool.or_true, Bool.true_or, Bool.or_false, Bool.false_or, Bool.not_true, Bool.not_false, reduceCtorEq, upd_e, Nat.add_eq_zero_iff, Nat.add_right_cancel_iff, Nat.add_left_cancel_iff]; rfl
    · simp only [mI_sI, mI_sL, mI_sP, mI_sA, mI_sB, mL_sI, mL_sL, mL_sP, mL_sA, mL_sB, mP_sI, mP_sL, mP_sP, mP_sA, mP_sB, mA_sI, mA_sL, mA_sP, mA_sAg, mA_sB, mB_sI, mB_sL, mB_sP, mB_sA, mB_sBg, mE_sI, mE_sL, mE_sP, mE_sA, mE_sB, Nat.reduceEqDiff, Nat.reduceAdd, Nat.reduceMul, Nat.reduceSub, Nat.reduceLT, Nat.reduceLeDiff, Nat.reduceDiv, Nat.reduceMod, Nat.reduceBEq, and_true, true_and, and_false, false_and, and_self, ite_true, ite_false, if_true, if_false, reduceIte, eq_self, not_true, not_false_eq_true, Bool.true_and, Bool.and_true, Bool.false_and, Bool.and_false, Bool.or_true, Bool.true_or, Bool.or_false, Bool.false_or, Bool.not_true, Bool.not_false, reduceCtorEq, upd_e, Nat.add_eq_zero_iff, Nat.add_right_cancel_iff, Nat.add_left_cancel_iff]; rfl
    · rw [(sF 5 1 (by omega)).1]; exact hx1
    · simp only [mI_sI, mI_sL, mI_sP, mI_sA, mI_sB, mL_sI, mL_sL, mL_sP, mL_sA, mL_sB, mP_sI, mP_sL, mP_sP, mP_sA, mP_sB, mA_sI, mA_sL, mA_sP, mA_sAg, mA_sB, mB_sI, mB_sL, mB_sP, mB_sA, mB_sBg, mE_sI, mE_sL, mE_sP, mE_sA, mE_sB, Nat.reduceEqDiff, Nat.reduceAdd, Nat.reduceMul, Nat.reduceSub, Nat.reduceLT, Nat.reduceLeDiff, Nat.reduceDiv, Nat.reduceMod, Nat.reduceBEq, and_true, true_and, and_false, false_and, and_self, ite_true, ite_false, if_true, if_false, reduceIte, eq_self, not_true, not_false_eq_true, Bool.true_and, Bool.and_true, Bool.false_and, Bool.and_false, Bool.or_true, Bool.true_or, Bool.or_false, Bool.false_or, Bool.not_true, Bool.not_false, reduceCtorEq, upd_e, Nat.add_eq_zero_iff, Nat.add_right_cancel_iff, Nat.add_left_cancel_iff]; rfl
    · rw [(sF 0 13 (by omega)).2.1]; exact hC.2.2.2.2.2.2.2
theorem M_isl_fin {τ : Mem} {A : AS} {D : DV} (ok : IOK D.1) (hM : MS τ A) (hD : MDr τ D) (h23 : mI τ 0 23 = 0) (x : Int32) : ∃ τ', fX6_island_77 0 τ x = some (x, τ') ∧ MS τ' (newA A D.1) := by
  have hT := ok.2.2.2.1
  have hK := ok.2.2.2.2.1
  obtain ⟨d0, d1, d2, d3, d4, d5, d6, d7, d8, d9, d10⟩ := hD
  obtain ⟨τ1, a1, a2, a3, a4⟩ := M_140 (x1 := x) 12 0 FU (sI (sI (sI (sI (sI τ 0 0 (nI (iH D.1))) 0 1 (nI (iR D.1))) 0 2 (nI (iB D.1))) 0 3 (nI (iT D.1))) 0 5 (nI (iK D.1))) (by omega) (by decide)
  obtain ⟨τ2, b1, b2, b3, b4, b5, b6, b7, b8⟩ := M_178 (x1 := x) 26 0 FU τ1 (by omega) (by decide)
  have sF : sameX (fun _ k => k ≤ 7 ∨ k = 9 ∨ k = 11 ∨ k = 12 ∨ k = 18) τ τ2 := by
    have z1 : sameX (fun _ k => k ≤ 7 ∨ k = 9 ∨ k = 11 ∨ k = 12 ∨ k = 18) τ (sI (sI (sI (sI (sI τ 0 0 (nI (iH D.1))) 0 1 (nI (iR D.1))) 0 2 (nI (iB D.1))) 0 3 (nI (iT D.1))) 0 5 (nI (iK D.1))) := by repeat (first | exact sameX.rf | refine sameX.sI ?_ (by first | rfl | exact Or.inl rfl | exact Or.inr rfl | trivial | decide | omega | simp) _ | refine sameX.sA ?_ (by first | rfl | exact Or.inl rfl | exact Or.inr rfl | trivial | decide | omega | simp) _ _ | refine sameX.sL ?_ (by first | rfl | exact Or.inl rfl | exact Or.inr rfl | trivial | decide | omega | simp) _ | refine sameX.sP ?_ (by first | rfl | exact Or.inl rfl | exact Or.inr rfl | trivial | decide | omega | simp) _ | refine sameX.sB ?_ (by first | rfl | exact Or.inl rfl | exact Or.inr rfl | trivial | decide | omega | simp) _ _)
    exact (z1.tr (a4.mono (fun o k h => by omega))).tr (b8.mono (fun o k h => by omega))
  have cI : ∀ k, ¬ (k = 4 ∨ k = 6) → ¬ (k = 7 ∨ k = 9 ∨ k = 11 ∨ k = 12 ∨ k = 18) → mI τ2 0 k = mI (sI (sI (sI (sI (sI τ 0 0 (nI (iH D.1))) 0 1 (nI (iR D.1))) 0 2 (nI (iB D.1))) 0 3 (nI (iT D.1))) 0 5 (nI (iK D.1))) 0 k := fun k h1 h2 => by
    rw [(b8 0 k h2).1, (a4 0 k h1).1]
  have c4 : ∀ k, k < 12 → mA τ2 0 4 k = mA τ 0 25 k := fun k hk => by
    rw [(b8 0 4 (by omega)).2.2.2.1, (a2 k (Nat.zero_le k) hk).1]; rfl
  have c6 : ∀ k, k < 12 → mA τ2 0 6 k = mA τ 0 27 k := fun k hk => by
    rw [(b8 0 6 (by omega)).2.2.2.1, (a2 k (Nat.zero_le k) hk).2]; rfl
  have c7 : ∀ k, k < 26 → mA τ2 0 7 k = if 2 ≤ k ∧ k ≤ 7 then -9 else 0 := fun k hk => by rw [b2 k hk, if_pos (Nat.zero_le k)]
  refine ⟨τ2, ?_, ⟨?_, ?_, ?_, ?_, ?_, fun t ht => ?_, fun t ht => ?_, fun k hk => ?_, fun k hk => ?_, fun k hk => ?_⟩, ⟨b7, fun i h => absurd h (Nat.not_lt_zero i)⟩, ⟨?_, ?_, fun t ht => ?_, fun t ht => ?_, fun t ht => ?_, ?_, fun i h => absurd h (Nat.not_lt_zero i)⟩, ⟨fun j hj => ?_, fun j _ N h => (by cases h)⟩, ⟨b3, fun i h => absurd h (Nat.not_lt_zero i)⟩, ⟨b4, fun h => absurd h (Nat.lt_irrefl 0), fun b h => absurd h (Nat.not_lt_zero b), fun b h => absurd h (Nat.not_lt_zero b)⟩, ?_⟩
  · have g0 : ∀ {α : Type} (y : Option α), gd (inb (0 : Int32) 3) y = y := fun y => rfl
    have g1 : ∀ {α : Type} (y : Option α), gd (inb (1 : Int32) 3) y = y := fun y => rfl
    have g2 : ∀ {α : Type} (y : Option α), gd (inb (2 : Int32) 3) y = y := fun y => rfl
    have n0 : (0 : Int32).toNatClampNeg = 0 := rfl
    have n1 : (1 : Int32).toNatClampNeg = 1 := rfl
    have n2 : (2 : Int32).toNatClampNeg = 2 := rfl
    unfold fX6_island_77
    rw [if_pos h23, g0, n0, d0, stp_s, g1, n1, mA_sI, d1, stp_s, g2, n2, mA_sI, mA_sI, d2, stp_s]
    have k24 : mI (sI (sI (sI τ 0 0 (nI (iH D.1))) 0 1 (nI (iR D.1))) 0 2 (nI (iB D.1))) 0 24 = nI (iT D.1) := by simp only [mI_sI, mI_sL, mI_sP, mI_sA, mI_sB, mL_sI, mL_sL, mL_sP, mL_sA, mL_sB, mP_sI, mP_sL, mP_sP, mP_sA, mP_sB, mA_sI, mA_sL, mA_sP, mA_sAg, mA_sB, mB_sI, mB_sL, mB_sP, mB_sA, mB_sBg, mE_sI, mE_sL, mE_sP, mE_sA, mE_sB, Nat.reduceEqDiff, Nat.reduceAdd, Nat.reduceMul, Nat.reduceSub, Nat.reduceLT, Nat.reduceLeDiff, Nat.reduceDiv, Nat.reduceMod, Nat.reduceBEq, and_true, true_and, and_false, false_and, and_self, ite_true, ite_false, if_true, if_false, reduceIte, eq_self, not_true, not_false_eq_true, Bool.true_and, Bool.and_true, Bool.false_and, Bool.and_false, Bool.or_true, Bool.true_or, Bool.or_false, Bool.false_or, Bool.not_true, Bool.not_false, reduceCtorEq, upd_e, Nat.add_eq_zero_iff, Nat.add_right_cancel_iff, Nat.add_left_cancel_iff]; exact d3
    have k26 : mI (sI (sI (sI (sI τ 0 0 (nI (iH D.1))) 0 1 (nI (iR D.1))) 0 2 (nI (iB D.1))) 0 3 (nI (iT D.1))) 0 26 = nI (iK D.1) := by simp only [mI_sI, mI_sL, mI_sP, mI_sA, mI_sB, mL_sI, mL_sL, mL_sP, mL_sA, mL_sB, mP_sI, mP_sL, mP_sP, mP_sA, mP_sB, mA_sI, mA_sL, mA_sP, mA_sAg, mA_sB, mB_sI, mB_sL, mB_sP, mB_sA, mB_sBg, mE_sI, mE_sL, mE_sP, mE_sA, mE_sB, Nat.reduceEqDiff, Nat.reduceAdd, Nat.reduceMul, Nat.reduceSub, Nat.reduceLT, Nat.reduceLeDiff, Nat.reduceDiv, Nat.reduceMod, Nat.reduceBEq, and_true, true_and, and_false, false_and, and_self, ite_true, ite_false, if_true, if_false, reduceIte, eq_self, not_true, not_false_eq_true, Bool.true_and, Bool.and_true, Bool.false_and, Bool.and_false, Bool.or_true, Bool.true_or, Bool.or_false, Bool.false_or, Bool.not_true, Bool.not_false, reduceCtorEq, upd_e, Nat.add_eq_zero_iff, Nat.add_right_cancel_iff, Nat.add_left_cancel_iff]; exact d4
    rw [k24, stp_s, k26, stp_s]
    exact a1.trans b1
  · rw [cI 0 (by omega) (by omega)]; simp only [mI_sI, mI_sL, mI_sP, mI_sA, mI_sB, mL_sI, mL_sL, mL_sP, mL_sA, mL_sB, mP_sI, mP_sL, mP_sP, mP_sA, mP_sB, mA_sI, mA_sL, mA_sP, mA_sAg, mA_sB, mB_sI, mB_sL, mB_sP, mB_sA, mB_sBg, mE_sI, mE_sL, mE_sP, mE_sA, mE_sB, Nat.reduceEqDiff, Nat.reduceAdd, Nat.reduceMul, Nat.reduceSub, Nat.reduceLT, Nat.reduceLeDiff, Nat.reduceDiv, Nat.reduceMod, Nat.reduceBEq, and_true, true_and, and_false, false_and, and_self, ite_true, ite_false, if_true, if_false, reduceIte, eq_self, not_true, not_false_eq_true, Bool.true_and, Bool.and_true, Bool.false_and, Bool.and_false, Bool.or_true, Bool.true_or, Bool.or_false, Bool.false_or, Bool.not_true, Bool.not_false, reduceCtorEq, upd_e, Nat.add_eq_zero_iff, Nat.add_right_cancel_iff, Nat.add_left_cancel_iff]; rfl
  · rw [cI 1 (by omega) (by omega)]; simp only [mI_sI, mI_sL, mI_sP, mI_sA, mI_sB, mL_sI, mL_sL, mL_sP, mL_sA, mL_sB, mP_sI, mP_sL, mP_sP, mP_sA, mP_sB, mA_sI, mA_sL, mA_sP, mA_sAg, mA_sB, mB_sI, mB_sL, mB_sP, mB_sA, mB_sBg, mE_sI, mE_sL, mE_sP, mE_sA, mE_sB, Nat.reduceEqDiff, Nat.reduceAdd, Nat.reduceMul, Nat.reduceSub, Nat.reduceLT, Nat.reduceLeDiff, Nat.reduceDiv, Nat.reduceMod, Nat.reduceBEq, and_true, true_and, and_false, false_and, and_self, ite_true, ite_false, if_true, if_false, reduceIte, eq_self, not_true, not_false_eq_true, Bool.true_and, Bool.and_true, Bool.false_and, Bool.and_false, Bool.or_true, Bool.true_or, Bool.or_false, Bool.false_or, Bool.not_true, Bool.not_false, reduceCtorEq, upd_e, Nat.add_eq_zero_iff, Nat.add_right_cancel_iff, Nat.add_left_cancel_iff]; rfl
  · rw [cI 2 (by omega) (by omega)]; simp only [mI_sI, mI_sL, mI_sP, mI_sA, mI_sB, mL_sI, mL_sL, mL_sP, mL_sA, mL_sB, mP_sI, mP_sL, mP_sP, mP_sA, mP_sB, mA_sI, mA_sL, mA_sP, mA_sAg, mA_sB, mB_sI, mB_sL, mB_sP, mB_sA, mB_sBg, mE_sI, mE_sL, mE_sP, mE_sA, mE_sB, Nat.reduceEqDiff, Nat.reduceAdd, Nat.reduceMul, Nat.reduceSub, Nat.reduceLT, Nat.reduceLeDiff, Nat.reduceDiv, Nat.reduceMod, Nat.reduceBEq, and_true, true_and, and_false, false_and, and_self, ite_true, ite_false, if_true, if_false, reduceIte, eq_self, not_true, not_false_eq_true, Bool.true_and, Bool.and_true, Bool.false_and, Bool.and_false, Bool.or_true, Bool.true_or, Bool.or_false, Bool.false_or, Bool.not_true, Bool.not_false, reduceCtorEq, upd_e, Nat.add_eq_zero_iff, Nat.add_right_cancel_iff, Nat.add_left_cancel_iff]; rfl
  · rw [cI 3 (by omega) (by omega)]; simp only [mI_sI, mI_sL, mI_sP, mI_sA, mI_sB, mL_sI, mL_sL, mL_sP, mL_sA, mL_sB, mP_sI, mP_sL, mP_sP, mP_sA, mP_sB, mA_sI, mA_sL, mA_sP, mA_sAg, mA_sB, mB_sI, mB_sL, mB_sP, mB_sA, mB_sBg, mE_sI, mE_sL, mE_sP, mE_sA, mE_sB, Nat.reduceEqDiff, Nat.reduceAdd, Nat.reduceMul, Nat.reduceSub, Nat.reduceLT, Nat.reduceLeDiff, Nat.reduceDiv, Nat.reduceMod, Nat.reduceBEq, and_true, true_and, and_false, false_and, and_self, ite_true, ite_false, if_true, if_false, reduceIte, eq_self, not_true, not_false_eq_true, Bool.true_and, Bool.and_true, Bool.false_and, Bool.and_false, Bool.or_true, Bool.true_or, Bool.or_false, Bool.false_or, Bool.not_true, Bool.not_false, reduceCtorEq, upd_e, Nat.add_eq_zero_iff, Nat.add_right_cancel_iff, Nat.add_left_cancel_iff]; rfl
  · rw [cI 5 (by omega) (by omega)]; simp only [mI_sI, mI_sL, mI_sP, mI_sA, mI_sB, mL_sI, mL_sL, mL_sP, mL_sA, mL_sB, mP_sI, mP_sL, mP_sP, mP_sA, mP_sB, mA_sI, mA_sL, mA_sP, mA_sAg, mA_sB, mB_sI, mB_sL, mB_sP, mB_sA, mB_sBg, mE_sI, mE_sL, mE_sP, mE_sA, mE_sB, Nat.reduceEqDiff, Nat.reduceAdd, Nat.reduceMul, Nat.reduceSub, Nat.reduceLT, Nat.reduceLeDiff, Nat.reduceDiv, Nat.reduceMod, Nat.reduceBEq, and_true, true_and, and_false, false_and, and_self, ite_true, ite_false, if_true, if_false, reduceIte, eq_self, not_true, not_false_eq_true, Bool.true_and, Bool.and_true, Bool.false_and, Bool.and_false, Bool.or_true, Bool.true_or, Bool.or_false, Bool.false_or, Bool.not_true, Bool.not_false, reduceCtorEq, upd_e, Nat.add_eq_zero_iff, Nat.add_right_cancel_iff, Nat.add_left_cancel_iff]; rfl
  · have ht : t < iT D.1 := ht
    rw [c4 _ (by omega)]; exact d5 t ht
  · have ht : t < iT D.1 := ht
    rw [c4 _ (by omega)]; exact d6 t ht
  · have hk : k < iK D.1 := hk
    rw [c6 _ (by omega)]; exact d7 k hk
  · have hk : k < iK D.1 := hk
    rw [c6 _ (by omega)]; exact d8 k hk
  · have hk : k < iK D.1 := hk
    rw [c6 _ (by omega)]; exact d9 k hk
  · rw [c7 0 (by decide)]; rfl
  · rw [c7 1 (by decide)]; rfl
  · rw [c7 _ (by omega), if_pos (by omega)]; rfl
  · rw [c7 _ (by omega), if_neg (by omega)]; rfl
  · rw [c7 _ (by omega), if_neg (by omega)]; rfl
  · rw [c7 20 (by decide)]; rfl
  · have e : j = 0 ∨ j = 1 := by omega
    rcases e with rfl | rfl
    · exact b5
    · exact b6
  · rw [(sF 0 16 (by omega)).2.1]; exact hM.2.2.2.2.2.2
theorem op_island {σ τ : Mem} (h : Rel σ τ)  : ∃ (r : Int32) (σ' : Mem) (τ' : Mem), fX5_island σ 0  = some (r, σ') ∧ fX6_island τ 0  = some (r, τ') ∧ Rel σ' τ' := by
  obtain ⟨A, q, q2, ok, hC, hM⟩ := id h
  have hX := ok.2.1
  have hL := hX.1
  have hq := hC.q
  have hq2 : q2 = 2 ∨ q2 = 3 := by omega
  have t0 : sameX (FCi q2) σ (sI (sI (sI (sI (sI (sI (sI (sI (sI σ q2 0 10) q2 1 2) q2 2 1) q2 3 0) q2 4 0) 1 4 0) 1 7 0) 1 8 0) 1 9 0) := ((((((((sameX.rf.sI (Or.inr rfl) _).sI (Or.inr rfl) _).sI (Or.inr rfl) _).sI (Or.inr rfl) _).sI (Or.inr rfl) _).sI (Or.inl ⟨rfl, by decide⟩) _).sI (Or.inl ⟨rfl, by decide⟩) _).sI (Or.inl ⟨rfl, by decide⟩) _).sI (Or.inl ⟨rfl, by decide⟩) _
  have hne : ¬ q2 = 1 := by omega
  have hne' : ¬ 1 = q2 := by omega
  have cd : CDr (sI (sI (sI (sI (sI (sI (sI (sI (sI σ q2 0 10) q2 1 2) q2 2 1) q2 3 0) q2 4 0) 1 4 0) 1 7 0) 1 8 0) 1 9 0) q2 D0r := by
    refine ⟨⟨?_, ?_, ?_, ?_, ?_, fun t h => absurd h (Nat.not_lt_zero t), fun t h => absurd h (Nat.not_lt_zero t), fun t h => absurd h (Nat.not_lt_zero t), fun t h => absurd h (Nat.not_lt_zero t), fun t h => absurd h (Nat.not_lt_zero t), fun _ => 0, ⟨fun t h => absurd h (Nat.not_lt_zero t), fun i j _ h => absurd h (Nat.not_lt_zero j)⟩, fun t h => absurd h (Nat.not_lt_zero t)⟩, fun k hk => ?_⟩
    · simp only [mI_sI, mI_sL, mI_sP, mI_sA, mI_sB, mL_sI, mL_sL, mL_sP, mL_sA, mL_sB, mP_sI, mP_sL, mP_sP, mP_sA, mP_sB, mA_sI, mA_sL, mA_sP, mA_sAg, mA_sB, mB_sI, mB_sL, mB_sP, mB_sA, mB_sBg, mE_sI, mE_sL, mE_sP, mE_sA, mE_sB, Nat.reduceEqDiff, Nat.reduceAdd, Nat.reduceMul, Nat.reduceSub, Nat.reduceLT, Nat.reduceLeDiff, Nat.reduceDiv, Nat.reduceMod, Nat.reduceBEq, and_true, true_and, and_false, false_and, and_self, ite_true, ite_false, if_true, if_false, reduceIte, eq_self, not_true, not_false_eq_true, Bool.true_and, Bool.and_true, Bool.false_and, Bool.and_false, Bool.or_true, Bool.true_or, Bool.or_false, Bool.false_or, Bool.not_true, Bool.not_false, reduceCtorEq, upd_e, Nat.add_eq_zero_iff, Nat.add_right_cancel_iff, Nat.add_left_cancel_iff, hne]; rfl
    · simp only [mI_sI, mI_sL, mI_sP, mI_sA, mI_sB, mL_sI, mL_sL, mL_sP, mL_sA, mL_sB, mP_sI, mP_sL, mP_sP, mP_sA, mP_sB, mA_sI, mA_sL, mA_sP, mA_sAg, mA_sB, mB_sI, mB_sL, mB_sP, mB_sA, mB_sBg, mE_sI, mE_sL, mE_sP, mE_sA, mE_sB, Nat.reduceEqDiff, Nat.reduceAdd, Nat.reduceMul, Nat.reduceSub, Nat.reduceLT, Nat.reduceLeDiff, Nat.reduceDiv, Nat.reduceMod, Nat.reduceBEq, and_true, true_and, and_false, false_and, and_self, ite_true, ite_false, if_true, if_false, reduceIte, eq_self, not_true, not_false_eq_true, Bool.true_and, Bool.and_true, Bool.false_and, Bool.and_false, Bool.or_true, Bool.true_or, Bool.or_false, Bool.false_or, Bool.not_true, Bool.not_false, reduceCtorEq, upd_e, Nat.add_eq_zero_iff, Nat.add_right_cancel_iff, Nat.add_left_cancel_iff, hne]; rfl
    · simp only [mI_sI, mI_sL, mI_sP, mI_sA, mI_sB, mL_sI, mL_sL, mL_sP, mL_sA, mL_sB, mP_sI, mP_sL, mP_sP, mP_sA, mP_sB, mA_sI, mA_sL, mA_sP, mA_sAg, mA_sB, mB_sI, mB_sL, mB_sP, mB_sA, mB_sBg, mE_sI, mE_sL, mE_sP, mE_sA, mE_sB, Nat.reduceEqDiff, Nat.reduceAdd, Nat.reduceMul, Nat.reduceSub, Nat.reduceLT, Nat.reduceLeDiff, Nat.reduceDiv, Nat.reduceMod, Nat.reduceBEq, and_true, true_and, and_false, false_and, and_self, ite_true, ite_false, if_true, if_false, reduceIte, eq_self, not_true, not_false_eq_true, Bool.true_and, Bool.and_true, Bool.false_and, Bool.and_false, Bool.or_true, Bool.true_or, Bool.or_false, Bool.false_or, Bool.not_true, Bool.not_false, reduceCtorEq, upd_e, Nat.add_eq_zero_iff, Nat.add_right_cancel_iff, Nat.add_left_cancel_iff, hne]; rfl
    · simp only [mI_sI, mI_sL, mI_sP, mI_sA, mI_sB, mL_sI, mL_sL, mL_sP, mL_sA, mL_sB, mP_sI, mP_sL, mP_sP, mP_sA, mP_sB, mA_sI, mA_sL, mA_sP, mA_sAg, mA_sB, mB_sI, mB_sL, mB_sP, mB_sA, mB_sBg, mE_sI, mE_sL, mE_sP, mE_sA, mE_sB, Nat.reduceEqDiff, Nat.reduceAdd, Nat.reduceMul, Nat.reduceSub, Nat.reduceLT, Nat.reduceLeDiff, Nat.reduceDiv, Nat.reduceMod, Nat.reduceBEq, and_true, true_and, and_false, false_and, and_self, ite_true, ite_false, if_true, if_false, reduceIte, eq_self, not_true, not_false_eq_true, Bool.true_and, Bool.and_true, Bool.false_and, Bool.and_false, Bool.or_true, Bool.true_or, Bool.or_false, Bool.false_or, Bool.not_true, Bool.not_false, reduceCtorEq, upd_e, Nat.add_eq_zero_iff, Nat.add_right_cancel_iff, Nat.add_left_cancel_iff, hne]; rfl
    · simp only [mI_sI, mI_sL, mI_sP, mI_sA, mI_sB, mL_sI, mL_sL, mL_sP, mL_sA, mL_sB, mP_sI, mP_sL, mP_sP, mP_sA, mP_sB, mA_sI, mA_sL, mA_sP, mA_sAg, mA_sB, mB_sI, mB_sL, mB_sP, mB_sA, mB_sBg, mE_sI, mE_sL, mE_sP, mE_sA, mE_sB, Nat.reduceEqDiff, Nat.reduceAdd, Nat.reduceMul, Nat.reduceSub, Nat.reduceLT, Nat.reduceLeDiff, Nat.reduceDiv, Nat.reduceMod, Nat.reduceBEq, and_true, true_and, and_false, false_and, and_self, ite_true, ite_false, if_true, if_false, reduceIte, eq_self, not_true, not_false_eq_true, Bool.true_and, Bool.and_true, Bool.false_and, Bool.and_false, Bool.or_true, Bool.true_or, Bool.or_false, Bool.false_or, Bool.not_true, Bool.not_false, reduceCtorEq, upd_e, Nat.add_eq_zero_iff, Nat.add_right_cancel_iff, Nat.add_left_cancel_iff, hne]; rfl
    · have e : k = 0 ∨ k = 1 ∨ k = 2 := by omega
      rcases e with rfl | rfl | rfl
      · simp only [mI_sI, mI_sL, mI_sP, mI_sA, mI_sB, mL_sI, mL_sL, mL_sP, mL_sA, mL_sB, mP_sI, mP_sL, mP_sP, mP_sA, mP_sB, mA_sI, mA_sL, mA_sP, mA_sAg, mA_sB, mB_sI, mB_sL, mB_sP, mB_sA, mB_sBg, mE_sI, mE_sL, mE_sP, mE_sA, mE_sB, Nat.reduceEqDiff, Nat.reduceAdd, Nat.reduceMul, Nat.reduceSub, Nat.reduceLT, Nat.reduceLeDiff, Nat.reduceDiv, Nat.reduceMod, Nat.reduceBEq, and_true, true_and, and_false, false_and, and_self, ite_true, ite_false, if_true, if_false, reduceIte, eq_self, not_true, not_false_eq_true, Bool.true_and, Bool.and_true, Bool.false_and, Bool.and_false, Bool.or_true, Bool.true_or, Bool.or_false, Bool.false_or, Bool.not_true, Bool.not_false, reduceCtorEq, upd_e, Nat.add_eq_zero_iff, Nat.add_right_cancel_iff, Nat.add_left_cancel_iff]; rfl
      · simp only [mI_sI, mI_sL, mI_sP, mI_sA, mI_sB, mL_sI, mL_sL, mL_sP, mL_sA, mL_sB, mP_sI, mP_sL, mP_sP, mP_sA, mP_sB, mA_sI, mA_sL, mA_sP, mA_sAg, mA_sB, mB_sI, mB_sL, mB_sP, mB_sA, mB_sBg, mE_sI, mE_sL, mE_sP, mE_sA, mE_sB, Nat.reduceEqDiff, Nat.reduceAdd, Nat.reduceMul, Nat.reduceSub, Nat.reduceLT, Nat.reduceLeDiff, Nat.reduceDiv, Nat.reduceMod, Nat.reduceBEq, and_true, true_and, and_false, false_and, and_self, ite_true, ite_false, if_true, if_false, reduceIte, eq_self, not_true, not_false_eq_true, Bool.true_and, Bool.and_true, Bool.false_and, Bool.and_false, Bool.or_true, Bool.true_or, Bool.or_false, Bool.false_or, Bool.not_true, Bool.not_false, reduceCtorEq, upd_e, Nat.add_eq_zero_iff, Nat.add_right_cancel_iff, Nat.add_left_cancel_iff]; rfl
      · simp only [mI_sI, mI_sL, mI_sP, mI_sA, mI_sB, mL_sI, mL_sL, mL_sP, mL_sA, mL_sB, mP_sI, mP_sL, mP_sP, mP_sA, mP_sB, mA_sI, mA_sL, mA_sP, mA_sAg, mA_sB, mB_sI, mB_sL, mB_sP, mB_sA, mB_sBg, mE_sI, mE_sL, mE_sP, mE_sA, mE_sB, Nat.reduceEqDiff, Nat.reduceAdd, Nat.reduceMul, Nat.reduceSub, Nat.reduceLT, Nat.reduceLeDiff, Nat.reduceDiv, Nat.reduceMod, Nat.reduceBEq, and_true, true_and, and_false, false_and, and_self, ite_true, ite_false, if_true, if_false, reduceIte, eq_self, not_true, not_false_eq_true, Bool.true_and, Bool.and_true, Bool.false_and, Bool.and_false, Bool.or_true, Bool.true_or, Bool.or_false, Bool.false_or, Bool.not_true, Bool.not_false, reduceCtorEq, upd_e, Nat.add_eq_zero_iff, Nat.add_right_cancel_iff, Nat.add_left_cancel_iff]; rfl
  have b4 : mI (sI (sI (sI (sI (sI (sI (sI (sI (sI σ q2 0 10) q2 1 2) q2 2 1) q2 3 0) q2 4 0) 1 4 0) 1 7 0) 1 8 0) 1 9 0) 1 4 = nI 0 := by simp only [mI_sI, mI_sL, mI_sP, mI_sA, mI_sB, mL_sI, mL_sL, mL_sP, mL_sA, mL_sB, mP_sI, mP_sL, mP_sP, mP_sA, mP_sB, mA_sI, mA_sL, mA_sP, mA_sAg, mA_sB, mB_sI, mB_sL, mB_sP, mB_sA, mB_sBg, mE_sI, mE_sL, mE_sP, mE_sA, mE_sB, Nat.reduceEqDiff, Nat.reduceAdd, Nat.reduceMul, Nat.reduceSub, Nat.reduceLT, Nat.reduceLeDiff, Nat.reduceDiv, Nat.reduceMod, Nat.reduceBEq, and_true, true_and, and_false, false_and, and_self, ite_true, ite_false, if_true, if_false, reduceIte, eq_self, not_true, not_false_eq_true, Bool.true_and, Bool.and_true, Bool.false_and, Bool.and_false, Bool.or_true, Bool.true_or, Bool.or_false, Bool.false_or, Bool.not_true, Bool.not_false, reduceCtorEq, upd_e, Nat.add_eq_zero_iff, Nat.add_right_cancel_iff, Nat.add_left_cancel_iff]; rfl
  have hcl : fX5_island σ 0 = bd2 (fX4_readInto_26 1 FU (sI (sI (sI (sI (sI (sI (sI (sI (sI σ q2 0 10) q2 1 2) q2 2 1) q2 3 0) q2 4 0) 1 4 0) 1 7 0) 1 8 0) 1 9 0) q2 (nI 0)) fun r20 σ21 => if 0 ≤ r20 then stp (sP σ21 0 1 (mP σ21 0 2)) fun σ25 => stp (sP σ25 0 2 (mP σ21 0 1)) fun σ26 => stp (sI σ26 (mP σ26 0 0) 0 (0 : Int32)) fun σ28 => bd (fX2_beginAnew σ28 (mP σ28 0 3)) fun σ30 => stp (sI σ30 (mP σ30 0 4) 0 (0 : Int32)) fun σ32 => stp (sI σ32 0 6 (0 : Int32)) fun σ33 => stp (sI σ33 0 10 (0 : Int32)) fun σ34 => some (r20, σ34) else some (r20, σ21) := by
    unfold fX5_island
    rw [hC.1.1, hC.1.2.2.2.2.2.1]
    rfl
  rw [hcl]
  generalize sI (sI (sI (sI (sI (sI (sI (sI (sI σ q2 0 10) q2 1 2) q2 2 1) q2 3 0) q2 4 0) 1 4 0) 1 7 0) 1 8 0) 1 9 0 = σ0 at t0 cd b4
  have u0 : sameX FMi τ (sI (sI (sI (sA (sA (sA (sI (sI τ 0 19 0) 0 23 0) 0 28 0 10) 0 28 1 2) 0 28 2 1) 0 29 0) 0 24 0) 0 26 0) := by repeat (first | exact sameX.rf | refine sameX.sI ?_ (by first | rfl | exact Or.inl rfl | exact Or.inr rfl | trivial | decide | omega | simp) _ | refine sameX.sA ?_ (by first | rfl | exact Or.inl rfl | exact Or.inr rfl | trivial | decide | omega | simp) _ _ | refine sameX.sL ?_ (by first | rfl | exact Or.inl rfl | exact Or.inr rfl | trivial | decide | omega | simp) _ | refine sameX.sP ?_ (by first | rfl | exact Or.inl rfl | exact Or.inr rfl | trivial | decide | omega | simp) _ | refine sameX.sB ?_ (by first | rfl | exact Or.inl rfl | exact Or.inr rfl | trivial | decide | omega | simp) _ _)
  have md : MDr (sI (sI (sI (sA (sA (sA (sI (sI τ 0 19 0) 0 23 0) 0 28 0 10) 0 28 1 2) 0 28 2 1) 0 29 0) 0 24 0) 0 26 0) D0r := by
    refine ⟨?_, ?_, ?_, ?_, ?_, fun t h => absurd h (Nat.not_lt_zero t), fun t h => absurd h (Nat.not_lt_zero t), fun t h => absurd h (Nat.not_lt_zero t), fun t h => absurd h (Nat.not_lt_zero t), fun t h => absurd h (Nat.not_lt_zero t), ?_⟩
    · simp only [mI_sI, mI_sL, mI_sP, mI_sA, mI_sB, mL_sI, mL_sL, mL_sP, mL_sA, mL_sB, mP_sI, mP_sL, mP_sP, mP_sA, mP_sB, mA_sI, mA_sL, mA_sP, mA_sAg, mA_sB, mB_sI, mB_sL, mB_sP, mB_sA, mB_sBg, mE_sI, mE_sL, mE_sP, mE_sA, mE_sB, Nat.reduceEqDiff, Nat.reduceAdd, Nat.reduceMul, Nat.reduceSub, Nat.reduceLT, Nat.reduceLeDiff, Nat.reduceDiv, Nat.reduceMod, Nat.reduceBEq, and_true, true_and, and_false, false_and, and_self, ite_true, ite_false, if_true, if_false, reduceIte, eq_self, not_true, not_false_eq_true, Bool.true_and, Bool.and_true, Bool.false_and, Bool.and_false, Bool.or_true, Bool.true_or, Bool.or_false, Bool.false_or, Bool.not_true, Bool.not_false, reduceCtorEq, upd_e, Nat.add_eq_zero_iff, Nat.add_right_cancel_iff, Nat.add_left_cancel_iff]; rfl
    · simp only [mI_sI, mI_sL, mI_sP, mI_sA, mI_sB, mL_sI, mL_sL, mL_sP, mL_sA, mL_sB, mP_sI, mP_sL, mP_sP, mP_sA, mP_sB, mA_sI, mA_sL, mA_sP, mA_sAg, mA_sB, mB_sI, mB_sL, mB_sP, mB_sA, mB_sBg, mE_sI, mE_sL, mE_sP, mE_sA, mE_sB, Nat.reduceEqDiff, Nat.reduceAdd, Nat.reduceMul, Nat.reduceSub, Nat.reduceLT, Nat.reduceLeDiff, Nat.reduceDiv, Nat.reduceMod, Nat.reduceBEq, and_true, true_and, and_false, false_and, and_self, ite_true, ite_false, if_true, if_false, reduceIte, eq_self, not_true, not_false_eq_true, Bool.true_and, Bool.and_true, Bool.false_and, Bool.and_false, Bool.or_true, Bool.true_or, Bool.or_false, Bool.false_or, Bool.not_true, Bool.not_false, reduceCtorEq, upd_e, Nat.add_eq_zero_iff, Nat.add_right_cancel_iff, Nat.add_left_cancel_iff]; rfl
    · simp only [mI_sI, mI_sL, mI_sP, mI_sA, mI_sB, mL_sI, mL_sL, mL_sP, mL_sA, mL_sB, mP_sI, mP_sL, mP_sP, mP_sA, mP_sB, mA_sI, mA_sL, mA_sP, mA_sAg, mA_sB, mB_sI, mB_sL, mB_sP, mB_sA, mB_sBg, mE_sI, mE_sL, mE_sP, mE_sA, mE_sB, Nat.reduceEqDiff, Nat.reduceAdd, Nat.reduceMul, Nat.reduceSub, Nat.reduceLT, Nat.reduceLeDiff, Nat.reduceDiv, Nat.reduceMod, Nat.reduceBEq, and_true, true_and, and_false, false_and, and_self, ite_true, ite_false, if_true, if_false, reduceIte, eq_self, not_true, not_false_eq_true, Bool.true_and, Bool.and_true, Bool.false_and, Bool.and_false, Bool.or_true, Bool.true_or, Bool.or_false, Bool.false_or, Bool.not_true, Bool.not_false, reduceCtorEq, upd_e, Nat.add_eq_zero_iff, Nat.add_right_cancel_iff, Nat.add_left_cancel_iff]; rfl
    · simp only [mI_sI, mI_sL, mI_sP, mI_sA, mI_sB, mL_sI, mL_sL, mL_sP, mL_sA, mL_sB, mP_sI, mP_sL, mP_sP, mP_sA, mP_sB, mA_sI, mA_sL, mA_sP, mA_sAg, mA_sB, mB_sI, mB_sL, mB_sP, mB_sA, mB_sBg, mE_sI, mE_sL, mE_sP, mE_sA, mE_sB, Nat.reduceEqDiff, Nat.reduceAdd, Nat.reduceMul, Nat.reduceSub, Nat.reduceLT, Nat.reduceLeDiff, Nat.reduceDiv, Nat.reduceMod, Nat.reduceBEq, and_true, true_and, and_false, false_and, and_self, ite_true, ite_false, if_true, if_false, reduceIte, eq_self, not_true, not_false_eq_true, Bool.true_and, Bool.and_true, Bool.false_and, Bool.and_false, Bool.or_true, Bool.true_or, Bool.or_false, Bool.false_or, Bool.not_true, Bool.not_false, reduceCtorEq, upd_e, Nat.add_eq_zero_iff, Nat.add_right_cancel_iff, Nat.add_left_cancel_iff]; rfl
    · simp only [mI_sI, mI_sL, mI_sP, mI_sA, mI_sB, mL_sI, mL_sL, mL_sP, mL_sA, mL_sB, mP_sI, mP_sL, mP_sP, mP_sA, mP_sB, mA_sI, mA_sL, mA_sP, mA_sAg, mA_sB, mB_sI, mB_sL, mB_sP, mB_sA, mB_sBg, mE_sI, mE_sL, mE_sP, mE_sA, mE_sB, Nat.reduceEqDiff, Nat.reduceAdd, Nat.reduceMul, Nat.reduceSub, Nat.reduceLT, Nat.reduceLeDiff, Nat.reduceDiv, Nat.reduceMod, Nat.reduceBEq, and_true, true_and, and_false, false_and, and_self, ite_true, ite_false, if_true, if_false, reduceIte, eq_self, not_true, not_false_eq_true, Bool.true_and, Bool.and_true, Bool.false_and, Bool.and_false, Bool.or_true, Bool.true_or, Bool.or_false, Bool.false_or, Bool.not_true, Bool.not_false, reduceCtorEq, upd_e, Nat.add_eq_zero_iff, Nat.add_right_cancel_iff, Nat.add_left_cancel_iff]; rfl
    · rw [fl3_0]; simp only [mI_sI, mI_sL, mI_sP, mI_sA, mI_sB, mL_sI, mL_sL, mL_sP, mL_sA, mL_sB, mP_sI, mP_sL, mP_sP, mP_sA, mP_sB, mA_sI, mA_sL, mA_sP, mA_sAg, mA_sB, mB_sI, mB_sL, mB_sP, mB_sA, mB_sBg, mE_sI, mE_sL, mE_sP, mE_sA, mE_sB, Nat.reduceEqDiff, Nat.reduceAdd, Nat.reduceMul, Nat.reduceSub, Nat.reduceLT, Nat.reduceLeDiff, Nat.reduceDiv, Nat.reduceMod, Nat.reduceBEq, and_true, true_and, and_false, false_and, and_self, ite_true, ite_false, if_true, if_false, reduceIte, eq_self, not_true, not_false_eq_true, Bool.true_and, Bool.and_true, Bool.false_and, Bool.and_false, Bool.or_true, Bool.true_or, Bool.or_false, Bool.false_or, Bool.not_true, Bool.not_false, reduceCtorEq, upd_e, Nat.add_eq_zero_iff, Nat.add_right_cancel_iff, Nat.add_left_cancel_iff]
  have hmo : fX6_island τ 0 = bd (fX6_next (sI (sI (sI (sA (sA (sA (sI (sI τ 0 19 0) 0 23 0) 0 28 0 10) 0 28 1 2) 0 28 2 1) 0 29 0) 0 24 0) 0 26 0) 0) fun σ62 => fX6_island_53 0 FU σ62 (nI 0) := rfl
  rw [hmo]
  have v19 : mI (sI (sI (sI (sA (sA (sA (sI (sI τ 0 19 0) 0 23 0) 0 28 0 10) 0 28 1 2) 0 28 2 1) 0 29 0) 0 24 0) 0 26 0) 0 19 = nI 0 := by simp only [mI_sI, mI_sL, mI_sP, mI_sA, mI_sB, mL_sI, mL_sL, mL_sP, mL_sA, mL_sB, mP_sI, mP_sL, mP_sP, mP_sA, mP_sB, mA_sI, mA_sL, mA_sP, mA_sAg, mA_sB, mB_sI, mB_sL, mB_sP, mB_sA, mB_sBg, mE_sI, mE_sL, mE_sP, mE_sA, mE_sB, Nat.reduceEqDiff, Nat.reduceAdd, Nat.reduceMul, Nat.reduceSub, Nat.reduceLT, Nat.reduceLeDiff, Nat.reduceDiv, Nat.reduceMod, Nat.reduceBEq, and_true, true_and, and_false, false_and, and_self, ite_true, ite_false, if_true, if_false, reduceIte, eq_self, not_true, not_false_eq_true, Bool.true_and, Bool.and_true, Bool.false_and, Bool.and_false, Bool.or_true, Bool.true_or, Bool.or_false, Bool.false_or, Bool.not_true, Bool.not_false, reduceCtorEq, upd_e, Nat.add_eq_zero_iff, Nat.add_right_cancel_iff, Nat.add_left_cancel_iff]; rfl
  have v23 : mI (sI (sI (sI (sA (sA (sA (sI (sI τ 0 19 0) 0 23 0) 0 28 0 10) 0 28 1 2) 0 28 2 1) 0 29 0) 0 24 0) 0 26 0) 0 23 = 0 := by simp only [mI_sI, mI_sL, mI_sP, mI_sA, mI_sB, mL_sI, mL_sL, mL_sP, mL_sA, mL_sB, mP_sI, mP_sL, mP_sP, mP_sA, mP_sB, mA_sI, mA_sL, mA_sP, mA_sAg, mA_sB, mB_sI, mB_sL, mB_sP, mB_sA, mB_sBg, mE_sI, mE_sL, mE_sP, mE_sA, mE_sB, Nat.reduceEqDiff, Nat.reduceAdd, Nat.reduceMul, Nat.reduceSub, Nat.reduceLT, Nat.reduceLeDiff, Nat.reduceDiv, Nat.reduceMod, Nat.reduceBEq, and_true, true_and, and_false, false_and, and_self, ite_true, ite_false, if_true, if_false, reduceIte, eq_self, not_true, not_false_eq_true, Bool.true_and, Bool.and_true, Bool.false_and, Bool.and_false, Bool.or_true, Bool.true_or, Bool.or_false, Bool.false_or, Bool.not_true, Bool.not_false, reduceCtorEq, upd_e, Nat.add_eq_zero_iff, Nat.add_right_cancel_iff, Nat.add_left_cancel_iff]
  generalize sI (sI (sI (sA (sA (sA (sI (sI τ 0 19 0) 0 23 0) 0 28 0 10) 0 28 1 2) 0 28 2 1) 0 29 0) 0 24 0) 0 26 0 = τ0 at u0 md v19 v23
  have hM0 : MS τ0 A := hM.scratch u0
  obtain ⟨τ1, e1, a1, u1⟩ := M_next hX hM0.2.1 (b := 0) (Nat.zero_le _) v19
  have hM1 : MS τ1 A := hM0.scratch (u1.mono (fun o k h => h.1))
  have hC0 : CSq σ0 q q2 A := hC.draft t0
  obtain ⟨σ2, τ2, x, g1, g2, g3, g4⟩ := isl_loop hX hq2 (aTx A).1 0 0 FU FU σ0 τ1 D0r (by omega) (by show _ < 1000; omega) (by show _ < 1000; omega) (Nat.le_refl 0) (Nat.zero_le _) hC0.2.2.1 b4 ⟨hM1.2.1, a1, by rw [(u1 0 23 (by omega)).1]; exact v23⟩ cd (md.keep u1 (fun k h1 h2 => by omega)) D0_ok
  have hC2 : CSq σ2 q q2 A := hC0.draft g2
  have hM2 : MS τ2 A := hM1.scratch g3
  rw [e1, bd_s, g1]
  rcases g4 with ⟨m, D', rfl, hm, c1, c2, c3, c4, c5⟩ | ⟨p, hp, c1, c2⟩
  · rw [c1, bd2_s]
    obtain ⟨σ3, f1, f2⟩ := C_isl_fin hC2 c3 hm
    obtain ⟨τ3, f3, f4⟩ := M_isl_fin c5 hM2 c4 c2 (nI m)
    exact ⟨nI m, σ3, τ3, f1, f3, newA A D'.1, q2, q, newA_ok c5, f2, f4⟩
  · have hneg : ¬ 0 ≤ (-10 : Int32) - nI p := by
      have e10 : (-10 : Int32) - nI p = -nI (10 + p) := by
        rw [Int32.sub_eq_add_neg, ← negA]; rfl
      rw [e10, Int32.le_iff_toInt_le, negI (by omega)]
      show ¬ (0 : Int) ≤ _
      omega
    rw [c1, bd2_s, if_neg hneg]
    refine ⟨_, σ2, τ2, rfl, ?_, A, q, q2, ok, hC2, hM2⟩
    unfold fX6_island_77
    rw [if_neg (show ¬ mI τ2 0 23 = 0 by rw [c2.1]; decide), c2.2]
