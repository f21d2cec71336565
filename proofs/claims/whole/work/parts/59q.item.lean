/-! an item, in class and model at once -/
theorem stopW {slot : Nat} (hslot : 24 ≤ slot) (F : Mem → Int32) {g : Mem → Int32 → Option Mem} (hg : ∀ τ xs, g τ xs = bd (fX6_must τ 0 xs) (fun σ => some (sI σ 0 slot (F σ)))) {τ : Mem} {p : Nat} (h : WRx τ p) : ∃ τ', (if mI τ 0 21 = (3 : Int32) then g τ 1 else g τ 0) = some τ' ∧ WRx τ' p ∧ sameX FMi τ τ' := by
  have e : ∀ xs, g τ xs = some (sI (sI τ 0 23 1) 0 slot (F (sI τ 0 23 1))) := fun xs => by rw [hg, must_w h.1, bd_s]
  rw [e, e]
  have s1 : sameX (fun _ k => k = 23 ∨ k = slot) τ (sI (sI τ 0 23 1) 0 slot (F (sI τ 0 23 1))) := (sameX.rf.sI (Or.inl rfl) _).sI (Or.inr rfl) _
  refine ⟨_, ite_self _, ⟨?_, ?_⟩, s1.mono (fun o k h => by show 19 ≤ k; omega)⟩
  · rw [mI_sI, if_neg (by omega), mI_sI, if_pos ⟨rfl, rfl⟩]
  · rw [mI_sI, if_neg (by omega), mI_sI, if_neg (by decide)]; exact h.2
theorem stopY {X : XV} (hX : XOK X) {slot : Nat} (F : Mem → Int32) {g : Mem → Int32 → Option Mem} (hg : ∀ τ xs, g τ xs = bd (fX6_must τ 0 xs) (fun σ => some (sI σ 0 slot (F σ)))) {τ : Mem} {b : Nat} (hb : b ≤ X.1) (h : MOKx τ X b) (hk : kdX X (skX X b) = 59) : ∃ τ1, (if mI τ 0 21 = (3 : Int32) then g τ 1 else g τ 0) = some (sI τ1 0 slot (F τ1)) ∧ MOKx τ1 X (nxX X b) ∧ sameX FLw τ τ1 := by
  obtain ⟨τ1, e1, m1, s1⟩ := must_ok hX hb h
  refine ⟨τ1, ?_, m1, s1⟩
  rw [if_pos (show mI τ 0 21 = 3 by rw [h.2.1.2.1]; exact tmk_3.mpr hk), hg, e1, bd_s]
theorem stopN {X : XV} {slot : Nat} (hslot : 24 ≤ slot) (F : Mem → Int32) {g : Mem → Int32 → Option Mem} (hg : ∀ τ xs, g τ xs = bd (fX6_must τ 0 xs) (fun σ => some (sI σ 0 slot (F σ)))) {τ : Mem} {b : Nat} (h : MOKx τ X b) (hk : ¬ kdX X (skX X b) = 59) : ∃ τ', (if mI τ 0 21 = (3 : Int32) then g τ 1 else g τ 0) = some τ' ∧ WRx τ' (skX X b) ∧ sameX FMi τ τ' := by
  have s1 : sameX (fun _ k => k = 23 ∨ k = slot) τ (sI (sI τ 0 23 1) 0 slot (F (sI τ 0 23 1))) := (sameX.rf.sI (Or.inl rfl) _).sI (Or.inr rfl) _
  refine ⟨sI (sI τ 0 23 1) 0 slot (F (sI τ 0 23 1)), ?_, ⟨?_, ?_⟩, s1.mono (fun o k h => by show 19 ≤ k; omega)⟩
  · rw [if_neg (show ¬ mI τ 0 21 = 3 by rw [h.2.1.2.1]; exact fun w => hk (tmk_3.mp w)), hg, must_bad h.2.2, bd_s]
  · rw [mI_sI, if_neg (by omega), mI_sI, if_pos ⟨rfl, rfl⟩]
  · rw [mI_sI, if_neg (by omega), mI_sI, if_neg (by decide)]; exact h.2.1.1
def ItX (X : XV) (q2 b : Nat) (σ τ : Mem) (cl : Option (Int32 × Mem)) (mo : Option Mem) : Prop := ∃ σ' τ', mo = some τ' ∧ sameX (FCi q2) σ σ' ∧ sameX FMi τ τ' ∧ ((cl = some (1, σ') ∧ ∃ (D' : DV) (b' : Nat), IOK D'.1 ∧ CDr σ' q2 D' ∧ MDr τ' D' ∧ mI σ' 1 4 = nI b' ∧ MOKx τ' X b' ∧ b < b' ∧ b' ≤ X.1) ∨ (cl = some (0, σ') ∧ ∃ p, mI σ' 1 3 = nI p ∧ WRx τ' p ∧ p ≤ 200))
theorem kd_lt {X : XV} {s : Nat} (h : kdX X s ≠ 0) : s < X.1 := by
  rcases Nat.lt_or_ge s X.1 with q | q
  · exact q
  · exact absurd (by unfold kdX; rw [if_pos q]) h
theorem sk_le {X : XV} {b : Nat} (hb : b ≤ X.1) : skX X b ≤ X.1 := (skX_ge (X := X) (X.1 - b) b (by omega)).2.1
theorem FLc_i {q2 : Nat} {σ σ' : Mem} (h : sameX FLc σ σ') : sameX (FCi q2) σ σ' := h.mono (fun _ _ h => Or.inl ⟨h.1, h.2.1⟩)
theorem FLw_i {τ τ' : Mem} (h : sameX FLw τ τ') : sameX FMi τ τ' := h.mono (fun _ _ h => h.1)
theorem it_one {X : XV} (hX : XOK X) {σ τ : Mem} {q2 b : Nat} {D : DV} (hT : TC σ X) (hc : CTk σ X b) (hm : MOKx τ X b) (hCD : CDr σ q2 D) (hMD : MDr τ D) (ok : IOK D.1) (hq : q2 = 2 ∨ q2 = 3) (hb : b ≤ X.1) {c k hi : Nat} (hkd : kdX X (skX X b) = c) (hc0 : c ≠ 0) (hk : k < 3) (hhi : hi < 10000) (hb2 : ∀ v, v ≤ hi → (k = 0 → v ≤ 40) ∧ (k = 1 → v ≤ 3) ∧ (k = 2 → v ≤ 9)) (hfit : ∀ (σ : Mem) (v : Nat), v ≤ 1023 → mI σ 1 5 = nI v → fX4_fits σ 1 (nI c) (nI 0) = some (if 1 ≤ v ∧ v ≤ hi then 1 else 0)) (htell : ∀ σ : Mem, fX4_tell σ 1 (nI c) q2 = some (sI (sI σ q2 k (mA σ 1 6 0)) 1 (7 + k) 1)) : ItX X q2 b σ τ (if D.2 k = true then some (0, σ) else fX4_readItem_41 1 FU σ q2 (nI c) (nI 1) (nI 0)) (fX6_readOne τ 0 (nI k) (nI hi)) := by
  have hL := hX.1
  have hsk := sk_le hb
  have hh : fX6_has (mI τ 0 29) (nI k) = some (if D.2 k = true then 1 else 0) := by
    unfold fX6_has
    rw [hMD.2.2.2.2.2.2.2.2.2.2, bs6_bit (fl3 D.2) (show k < 6 by omega)]
    have : fl3 D.2 k = D.2 k := by unfold fl3; rw [decide_eq_true hk, Bool.true_and]
    rw [this]
    cases D.2 k <;> rfl
  have hg54 : ∀ τ xs, fX6_readOne_54 0 τ (nI k) xs = bd (fX6_must τ 0 xs) (fun σ => some (sI σ 0 29 (mI σ 0 29 ||| ((1 : Int32) <<< (nI k &&& 31))))) := fun τ xs => rfl
  obtain ⟨n, hn⟩ : ∃ m, FU = m + 1 + 1 := ⟨998, rfl⟩
  unfold fX6_readOne ItX
  rw [hh, bd_s]
  by_cases hfl : D.2 k = true
  · rw [if_pos hfl, if_pos hfl, if_neg (show ¬ (1 : Int32) = 0 by decide)]
    have h23 : ¬ mI (sI τ 0 23 1) 0 23 = 0 := by simp only [mI_sI, mI_sL, mI_sP, mI_sA, mI_sB, mL_sI, mL_sL, mL_sP, mL_sA, mL_sB, mP_sI, mP_sL, mP_sP, mP_sA, mP_sB, mA_sI, mA_sL, mA_sP, mA_sAg, mA_sB, mB_sI, mB_sL, mB_sP, mB_sA, mB_sBg, mE_sI, mE_sL, mE_sP, mE_sA, mE_sB, Nat.reduceEqDiff, Nat.reduceAdd, Nat.reduceMul, Nat.reduceSub, Nat.reduceLT, Nat.reduceLeDiff, Nat.reduceDiv, Nat.reduceMod, Nat.reduceBEq, and_true, true_and, and_false, false_and, and_self, ite_true, ite_false, if_true, if_false, reduceIte, eq_self, not_true, not_false_eq_true, Bool.true_and, Bool.and_true, Bool.false_and, Bool.and_false, Bool.or_true, Bool.true_or, Bool.or_false, Bool.false_or, Bool.not_true, Bool.not_false, reduceCtorEq, upd_e, Nat.add_eq_zero_iff, Nat.add_right_cancel_iff, Nat.add_left_cancel_iff]; decide
    refine ⟨σ, sI τ 0 23 1, ?_, sameX.rf, by repeat (first | exact sameX.rf | refine sameX.sI ?_ (by first | rfl | exact Or.inl rfl | exact Or.inr rfl | trivial | decide | omega | simp) _ | refine sameX.sA ?_ (by first | rfl | exact Or.inl rfl | exact Or.inr rfl | trivial | decide | omega | simp) _ _ | refine sameX.sL ?_ (by first | rfl | exact Or.inl rfl | exact Or.inr rfl | trivial | decide | omega | simp) _ | refine sameX.sP ?_ (by first | rfl | exact Or.inl rfl | exact Or.inr rfl | trivial | decide | omega | simp) _ | refine sameX.sB ?_ (by first | rfl | exact Or.inl rfl | exact Or.inr rfl | trivial | decide | omega | simp) _ _), Or.inr ⟨rfl, skX X b, hc.2.1, wr1 hm.2.1.1, by omega⟩⟩
    unfold fX6_readOne_17
    rw [must_bad hm.2.2, bd_s, if_neg h23]
  · rw [if_neg hfl, if_neg hfl, if_pos rfl]
    unfold fX6_readOne_17
    have hb1 := nxX_ge hb
    obtain ⟨τ1, e1, m1, s1⟩ := must_ok hX hb hm
    rw [e1, bd_s, if_pos m1.2.2]
    obtain ⟨σ1, c1, t1, f1⟩ := C_rd hX hT hb1.2.1 hc.2.2.1 (n := n + 1) (i := 0) (w := 1) (q2 := q2) (x2 := nI c) (by decide) (by decide)
    rw [hn, f1]
    by_cases hP : kdX X (skX X (nxX X b)) = 1 ∧ 1 ≤ vlX X (nxX X b) ∧ vlX X (nxX X b) ≤ hi
    · have hv := (kdX_1 hP.1).2
      obtain ⟨τ2, e2, m2, u2, s2⟩ := ri_ok hX hb1.2.1 m1 (b1 := 28) (n1 := 3) (k := k) (lo := 1) (hi := hi) (by decide) hk (by decide) hP.1 hP.2.1 hP.2.2 hhi
      have e2 : fX6_readInto τ1 0 0 28 3 (nI k) 1 (nI hi) = _ := e2
      have hb2' := nxX_ge hb1.2.1
      rw [if_pos hP.1, hfit σ1 _ hv (c1.2.2.2 hP.1), bd_s, if_pos hP.2, if_neg (show ¬ (1 : Int32) = 0 by decide), e2, bd2_s]
      have t2 : sameX (fun o k => o = 1 ∧ k = 6) σ1 (sA σ1 1 6 0 (nI (vlX X (nxX X b)))) := by repeat (first | exact sameX.rf | refine sameX.sI ?_ (by first | rfl | exact Or.inl rfl | exact Or.inr rfl | trivial | decide | omega | simp) _ | refine sameX.sA ?_ (by first | rfl | exact Or.inl rfl | exact Or.inr rfl | trivial | decide | omega | simp) _ _ | refine sameX.sL ?_ (by first | rfl | exact Or.inl rfl | exact Or.inr rfl | trivial | decide | omega | simp) _ | refine sameX.sP ?_ (by first | rfl | exact Or.inl rfl | exact Or.inr rfl | trivial | decide | omega | simp) _ | refine sameX.sB ?_ (by first | rfl | exact Or.inl rfl | exact Or.inr rfl | trivial | decide | omega | simp) _ _)
      have hT2 : TC (sA σ1 1 6 0 (nI (vlX X (nxX X b)))) X := (hT.keep t1 ⟨by omega, by omega⟩).keep t2 ⟨by omega, by omega⟩
      obtain ⟨σ3, c3, t3, f3⟩ := C_rdE hX hT2 hb2'.2.1 (by simp only [mI_sI, mI_sL, mI_sP, mI_sA, mI_sB, mL_sI, mL_sL, mL_sP, mL_sA, mL_sB, mP_sI, mP_sL, mP_sP, mP_sA, mP_sB, mA_sI, mA_sL, mA_sP, mA_sAg, mA_sB, mB_sI, mB_sL, mB_sP, mB_sA, mB_sBg, mE_sI, mE_sL, mE_sP, mE_sA, mE_sB, Nat.reduceEqDiff, Nat.reduceAdd, Nat.reduceMul, Nat.reduceSub, Nat.reduceLT, Nat.reduceLeDiff, Nat.reduceDiv, Nat.reduceMod, Nat.reduceBEq, and_true, true_and, and_false, false_and, and_self, ite_true, ite_false, if_true, if_false, reduceIte, eq_self, not_true, not_false_eq_true, Bool.true_and, Bool.and_true, Bool.false_and, Bool.and_false, Bool.or_true, Bool.true_or, Bool.or_false, Bool.false_or, Bool.not_true, Bool.not_false, reduceCtorEq, upd_e, Nat.add_eq_zero_iff, Nat.add_right_cancel_iff, Nat.add_left_cancel_iff]; exact c1.2.2.1) (n := n) (w := 1) (q2 := q2) (x2 := nI c) (by decide)
      have f3 : fX4_readItem_41 1 (n + 1) (sA σ1 1 6 0 (nI (vlX X (nxX X b)))) q2 (nI c) (nI 1) (nI (0 + 1)) = _ := f3
      rw [f3]
      have t13 : sameX (FCi q2) σ σ3 := (FLc_i t1).tr ((t2.mono (fun o k h => Or.inl ⟨h.1, by omega⟩)).tr (FLc_i t3))
      have s12 : sameX FMi τ τ2 := (FLw_i s1).tr (s2.mono (fun o k h => by show 19 ≤ k; omega))
      by_cases hS : kdX X (skX X (nxX X (nxX X b))) = 59
      · obtain ⟨τ3, e3, m3, s3⟩ := stopY hX _ hg54 hb2'.2.1 m2 hS
        have hb3 := nxX_ge hb2'.2.1
        have v6 : mA σ3 1 6 0 = nI (vlX X (nxX X b)) := by
          rw [(t3 1 6 (by omega)).2.2.2.1]; simp only [mI_sI, mI_sL, mI_sP, mI_sA, mI_sB, mL_sI, mL_sL, mL_sP, mL_sA, mL_sB, mP_sI, mP_sL, mP_sP, mP_sA, mP_sB, mA_sI, mA_sL, mA_sP, mA_sAg, mA_sB, mB_sI, mB_sL, mB_sP, mB_sA, mB_sBg, mE_sI, mE_sL, mE_sP, mE_sA, mE_sB, Nat.reduceEqDiff, Nat.reduceAdd, Nat.reduceMul, Nat.reduceSub, Nat.reduceLT, Nat.reduceLeDiff, Nat.reduceDiv, Nat.reduceMod, Nat.reduceBEq, and_true, true_and, and_false, false_and, and_self, ite_true, ite_false, if_true, if_false, reduceIte, eq_self, not_true, not_false_eq_true, Bool.true_and, Bool.and_true, Bool.false_and, Bool.and_false, Bool.or_true, Bool.true_or, Bool.or_false, Bool.false_or, Bool.not_true, Bool.not_false, reduceCtorEq, upd_e, Nat.add_eq_zero_iff, Nat.add_right_cancel_iff, Nat.add_left_cancel_iff]
        rw [if_pos hS, htell, bd_s, e3, v6]
        have s4 : sameX (fun _ k => k = 29) τ3 (sI τ3 0 29 (mI τ3 0 29 ||| ((1 : Int32) <<< (nI k &&& 31)))) := by repeat (first | exact sameX.rf | refine sameX.sI ?_ (by first | rfl | exact Or.inl rfl | exact Or.inr rfl | trivial | decide | omega | simp) _ | refine sameX.sA ?_ (by first | rfl | exact Or.inl rfl | exact Or.inr rfl | trivial | decide | omega | simp) _ _ | refine sameX.sL ?_ (by first | rfl | exact Or.inl rfl | exact Or.inr rfl | trivial | decide | omega | simp) _ | refine sameX.sP ?_ (by first | rfl | exact Or.inl rfl | exact Or.inr rfl | trivial | decide | omega | simp) _ | refine sameX.sB ?_ (by first | rfl | exact Or.inl rfl | exact Or.inr rfl | trivial | decide | omega | simp) _ _)
        have t4 : sameX (FCi q2) σ3 (sI (sI σ3 q2 k (nI (vlX X (nxX X b)))) 1 (7 + k) 1) := (sameX.rf.sI (Or.inr rfl) _).sI (Or.inl ⟨rfl, by omega⟩) _
        refine ⟨_, _, rfl, t13.tr t4, (s12.tr (FLw_i s3)).tr (s4.mono (fun o k h => by show 19 ≤ k; omega)), Or.inl ⟨rfl, (setO D.1 k (vlX X (nxX X b)), fun t => D.2 t || decide (t = k)), nxX X (nxX X (nxX X b)), setO_ok ok hP.2.1 (hb2 _ hP.2.2), ?_, ?_, ?_, m3.keep s4 (fun k h1 h2 => by omega), ?_, hb3.2.1⟩⟩
        · -- the class
          have i3 : IC σ3 q2 D.1 := ((hCD.1.keep t1 (fun k => by omega)).keep t2 (fun k => by omega)).keep t3 (fun k => by omega)
          have f7 : ∀ j, j < 3 → mI σ3 1 (7 + j) = nI (b2n (D.2 j)) := fun j hj => by
            rw [(t3 1 (7 + j) (by omega)).1, (t2 1 (7 + j) (by omega)).1, (t1 1 (7 + j) (by omega)).1]; exact hCD.2 j hj
          obtain ⟨h0, h1, h2, h3, h4, h5, h6, h8, h9, h10, od, hod, h7⟩ := i3
          have gI : ∀ j, mI (sI (sI σ3 q2 k (nI (vlX X (nxX X b)))) 1 (7 + k) 1) q2 j = if j = k then nI (vlX X (nxX X b)) else mI σ3 q2 j := fun j => by
            rw [mI_sI, if_neg (by omega), mI_sI]
            by_cases e : j = k
            · rw [if_pos e, if_pos ⟨rfl, e⟩]
            · rw [if_neg e, if_neg (fun w => e w.2)]
          have gA : ∀ j, mA (sI (sI σ3 q2 k (nI (vlX X (nxX X b)))) 1 (7 + k) 1) q2 j = mA σ3 q2 j := fun j => rfl
          refine ⟨⟨?_, ?_, ?_, ?_, ?_, fun t ht => ?_, fun t ht => ?_, fun j hj => ?_, fun j hj => ?_, fun j hj => ?_, od, hod, fun i hi => ?_⟩, fun j hj => ?_⟩
          · rw [gI]; show _ = nI (if k = 0 then _ else iH D.1)
            by_cases e : k = 0
            · rw [if_pos e, if_pos e.symm]
            · rw [if_neg e, if_neg (fun w => e w.symm)]; exact h0
          · rw [gI]; show _ = nI (if k = 1 then _ else iR D.1)
            by_cases e : k = 1
            · rw [if_pos e, if_pos e.symm]
            · rw [if_neg e, if_neg (fun w => e w.symm)]; exact h1
          · rw [gI]; show _ = nI (if k = 2 then _ else iB D.1)
            by_cases e : k = 2
            · rw [if_pos e, if_pos e.symm]
            · rw [if_neg e, if_neg (fun w => e w.symm)]; exact h2
          · rw [gI, if_neg (by omega)]; exact h3
          · rw [gI, if_neg (by omega)]; exact h4
          · rw [gA]; exact h5 t ht
          · rw [gA]; exact h6 t ht
          · rw [gA]; exact h8 j hj
          · rw [gA]; exact h9 j hj
          · rw [gA]; exact h10 j hj
          · rw [gA]; exact h7 i hi
          · show mI (sI (sI σ3 q2 k (nI (vlX X (nxX X b)))) 1 (7 + k) 1) 1 (7 + j) = nI (b2n (D.2 j || decide (j = k)))
            rw [mI_sI]
            by_cases e : j = k
            · rw [if_pos ⟨rfl, by omega⟩, decide_eq_true e, Bool.or_true]; rfl
            · rw [if_neg (by omega), mI_sI, if_neg (by omega), decide_eq_false e, Bool.or_false]; exact f7 j hj
        · -- the model
          obtain ⟨d0, d1, d2, d3, d4, d5, d6, d7, d8, d9, d10⟩ := hMD
          have u3 : ∀ j, mA (sI τ3 0 29 (mI τ3 0 29 ||| ((1 : Int32) <<< (nI k &&& 31)))) 0 28 j = if j = k then nI (vlX X (nxX X b)) else mA τ 0 28 j := fun j => by
            show mA τ3 0 28 j = _
            rw [(s3 0 28 (by omega)).2.2.2.1, u2, (s1 0 28 (by omega)).2.2.2.1]; rfl
          have sAll : sameX (fun _ k => (19 ≤ k ∧ k ≤ 23) ∨ k = 28 ∨ k = 29) τ (sI τ3 0 29 (mI τ3 0 29 ||| ((1 : Int32) <<< (nI k &&& 31)))) := ((s1.mono (fun o k h => Or.inl h)).tr ((s2.mono (fun o k h => by omega)).tr ((s3.mono (fun o k h => Or.inl h)).tr (s4.mono (fun o k h => by omega)))))
          have h29 : mI τ3 0 29 = nI (bs6 (fl3 D.2)) := by
            rw [(s3 0 29 (by omega)).1, (s2 0 29 (by omega)).1, (s1 0 29 (by omega)).1]; exact d10
          refine ⟨?_, ?_, ?_, by rw [(sAll 0 24 (by omega)).1]; exact d3, by rw [(sAll 0 26 (by omega)).1]; exact d4, by rw [(sAll 0 25 (by omega)).2.2.2.1]; exact d5, by rw [(sAll 0 25 (by omega)).2.2.2.1]; exact d6, by rw [(sAll 0 27 (by omega)).2.2.2.1]; exact d7, by rw [(sAll 0 27 (by omega)).2.2.2.1]; exact d8, by rw [(sAll 0 27 (by omega)).2.2.2.1]; exact d9, ?_⟩
          · rw [u3]; show _ = nI (if k = 0 then _ else iH D.1)
            by_cases e : k = 0
            · rw [if_pos e, if_pos e.symm]
            · rw [if_neg e, if_neg (fun w => e w.symm)]; exact d0
          · rw [u3]; show _ = nI (if k = 1 then _ else iR D.1)
            by_cases e : k = 1
            · rw [if_pos e, if_pos e.symm]
            · rw [if_neg e, if_neg (fun w => e w.symm)]; exact d1
          · rw [u3]; show _ = nI (if k = 2 then _ else iB D.1)
            by_cases e : k = 2
            · rw [if_pos e, if_pos e.symm]
            · rw [if_neg e, if_neg (fun w => e w.symm)]; exact d2
          · rw [mI_sI, if_pos ⟨rfl, rfl⟩, h29, bs6_or _ (show k < 6 by omega)]
            refine congrArg nI (bs6_c (fun t ht => ?_))
            show ((decide (t < 3) && D.2 t) || decide (t = k)) = (decide (t < 3) && (D.2 t || decide (t = k)))
            by_cases e : t = k
            · rw [decide_eq_true e, Bool.or_true, Bool.or_true, decide_eq_true (show t < 3 by omega)]; rfl
            · rw [decide_eq_false e, Bool.or_false, Bool.or_false]
        · rw [mI_sI, if_neg (by omega), mI_sI, if_neg (by omega)]; exact c3.2.2.1
        · have := hb1.2.2 (kd_lt (by rw [hkd]; exact hc0))
          omega
      · obtain ⟨τ3, e3, w3, s3⟩ := stopN (by decide) _ hg54 m2 hS
        rw [if_neg hS, e3]
        exact ⟨_, _, rfl, t13, s12.tr s3, Or.inr ⟨rfl, _, c3.2.1, w3, by have := sk_le hb2'.2.1; omega⟩⟩
    · obtain ⟨y, e2⟩ := ri_bad m1 (b1 := 28) (n1 := 3) (lo := 1) (hi := hi) (x2 := nI k) hP hhi (by decide)
      have e2 : fX6_readInto τ1 0 0 28 3 (nI k) 1 (nI hi) = _ := e2
      rw [e2, bd2_s]
      obtain ⟨τ3, e3, w3, s3⟩ := stopW (by decide) _ hg54 (wr1 m1.2.1.1)
      rw [e3]
      refine ⟨σ1, τ3, rfl, FLc_i t1, (FLw_i s1).tr (sameX.tr (by repeat (first | exact sameX.rf | refine sameX.sI ?_ (by first | rfl | exact Or.inl rfl | exact Or.inr rfl | trivial | decide | omega | simp) _ | refine sameX.sA ?_ (by first | rfl | exact Or.inl rfl | exact Or.inr rfl | trivial | decide | omega | simp) _ _ | refine sameX.sL ?_ (by first | rfl | exact Or.inl rfl | exact Or.inr rfl | trivial | decide | omega | simp) _ | refine sameX.sP ?_ (by first | rfl | exact Or.inl rfl | exact Or.inr rfl | trivial | decide | omega | simp) _ | refine sameX.sB ?_ (by first | rfl | exact Or.inl rfl | exact Or.inr rfl | trivial | decide | omega | simp) _ _)) s3), Or.inr ⟨?_, _, c1.2.1, w3, by have := sk_le hb1.2.1; omega⟩⟩
      by_cases hk1 : kdX X (skX X (nxX X b)) = 1
      · rw [if_pos hk1, hfit σ1 _ (kdX_1 hk1).2 (c1.2.2.2 hk1), bd_s, if_neg (fun w => hP ⟨hk1, w⟩), if_pos rfl]
      · rw [if_neg hk1]
