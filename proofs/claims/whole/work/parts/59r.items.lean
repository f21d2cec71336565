/-! travellers and clerks -/
theorem tell_t {σ : Mem} {q2 : Nat} : fX4_tell σ 1 (nI 116) q2 = bd (fX1_addTraveller σ q2 (mA σ 1 6 0) (mA σ 1 6 1)) (fun σ23 => some σ23) := by
  unfold fX4_tell
  rw [if_neg (show ¬ nI 116 = 98 by decide), if_neg (show ¬ nI 116 = 113 by decide), if_neg (show ¬ nI 116 = 114 by decide), if_pos (show nI 116 = 116 from rfl)]
  rfl
theorem tell_k {σ : Mem} {q2 : Nat} : fX4_tell σ 1 (nI 107) q2 = bd (fX1_addClerk σ q2 (mA σ 1 6 0) (mA σ 1 6 1) (mA σ 1 6 2)) (fun σ24 => some σ24) := by
  unfold fX4_tell
  rw [if_neg (show ¬ nI 107 = 98 by decide), if_neg (show ¬ nI 107 = 113 by decide), if_neg (show ¬ nI 107 = 114 by decide), if_neg (show ¬ nI 107 = 116 by decide)]
  rfl
theorem FL6_i {q2 : Nat} {σ : Mem} {i : Nat} {v : Int32} : sameX (FCi q2) σ (sA σ 1 6 i v) := sameX.rf.sA (Or.inl ⟨rfl, by decide⟩) _ _
theorem CTk.keep6 {σ : Mem} {X : XV} {i : Nat} {v : Int32} (h : TC σ X) : TC (sA σ 1 6 i v) X := h.keep (F := fun o k => o = 1 ∧ k = 6) (by repeat (first | exact sameX.rf | refine sameX.sI ?_ (by first | rfl | exact Or.inl rfl | exact Or.inr rfl | trivial | decide | omega | simp) _ | refine sameX.sA ?_ (by first | rfl | exact Or.inl rfl | exact Or.inr rfl | trivial | decide | omega | simp) _ _ | refine sameX.sL ?_ (by first | rfl | exact Or.inl rfl | exact Or.inr rfl | trivial | decide | omega | simp) _ | refine sameX.sP ?_ (by first | rfl | exact Or.inl rfl | exact Or.inr rfl | trivial | decide | omega | simp) _ | refine sameX.sB ?_ (by first | rfl | exact Or.inl rfl | exact Or.inr rfl | trivial | decide | omega | simp) _ _)) ⟨by omega, by omega⟩
theorem it_trav {X : XV} (hX : XOK X) {σ τ : Mem} {q2 b : Nat} {D : DV} (hT : TC σ X) (hc : CTk σ X b) (hm : MOKx τ X b) (hCD : CDr σ q2 D) (hMD : MDr τ D) (ok : IOK D.1) (hq : q2 = 2 ∨ q2 = 3) (hb : b ≤ X.1) (hkd : kdX X (skX X b) = 116) : ItX X q2 b σ τ (if 6 ≤ iT D.1 then some (0, σ) else fX4_readItem_41 1 FU σ q2 (nI 116) (nI 2) (nI 0)) (fX6_readTraveller τ 0) := by
  have hL := hX.1
  have hsk := sk_le hb
  have hT6 := ok.2.2.2.1
  have hg : ∀ τ xs, fX6_readTraveller_78 0 τ xs = bd (fX6_must τ 0 xs) (fun σ => some (sI σ 0 24 (mI σ 0 24 + 1))) := fun τ xs => rfl
  obtain ⟨n, hn⟩ : ∃ m, FU = m + 1 + 1 + 1 := ⟨997, rfl⟩
  obtain ⟨d0, d1, d2, d3, d4, d5, d6, d7, d8, d9, d10⟩ := id hMD
  unfold fX6_readTraveller ItX
  rw [d3, show (6 : Int32) = nI 6 from rfl, iteLE (by omega) (by omega)]
  by_cases hfl : 6 ≤ iT D.1
  · rw [if_pos hfl, if_pos hfl]
    have h23 : ¬ mI (sI τ 0 23 1) 0 23 = 0 := by simp only [mI_sI, mI_sL, mI_sP, mI_sA, mI_sB, mL_sI, mL_sL, mL_sP, mL_sA, mL_sB, mP_sI, mP_sL, mP_sP, mP_sA, mP_sB, mA_sI, mA_sL, mA_sP, mA_sAg, mA_sB, mB_sI, mB_sL, mB_sP, mB_sA, mB_sBg, mE_sI, mE_sL, mE_sP, mE_sA, mE_sB, Nat.reduceEqDiff, Nat.reduceAdd, Nat.reduceMul, Nat.reduceSub, Nat.reduceLT, Nat.reduceLeDiff, Nat.reduceDiv, Nat.reduceMod, Nat.reduceBEq, and_true, true_and, and_false, false_and, and_self, ite_true, ite_false, if_true, if_false, reduceIte, eq_self, not_true, not_false_eq_true, Bool.true_and, Bool.and_true, Bool.false_and, Bool.and_false, Bool.or_true, Bool.true_or, Bool.or_false, Bool.false_or, Bool.not_true, Bool.not_false, reduceCtorEq, upd_e, Nat.add_eq_zero_iff, Nat.add_right_cancel_iff, Nat.add_left_cancel_iff]; decide
    refine ⟨σ, sI τ 0 23 1, ?_, sameX.rf, by repeat (first | exact sameX.rf | refine sameX.sI ?_ (by first | rfl | exact Or.inl rfl | exact Or.inr rfl | trivial | decide | omega | simp) _ | refine sameX.sA ?_ (by first | rfl | exact Or.inl rfl | exact Or.inr rfl | trivial | decide | omega | simp) _ _ | refine sameX.sL ?_ (by first | rfl | exact Or.inl rfl | exact Or.inr rfl | trivial | decide | omega | simp) _ | refine sameX.sP ?_ (by first | rfl | exact Or.inl rfl | exact Or.inr rfl | trivial | decide | omega | simp) _ | refine sameX.sB ?_ (by first | rfl | exact Or.inl rfl | exact Or.inr rfl | trivial | decide | omega | simp) _ _), Or.inr ⟨rfl, skX X b, hc.2.1, wr1 hm.2.1.1, by omega⟩⟩
    unfold fX6_readTraveller_15
    rw [must_bad hm.2.2, bd_s, if_neg h23]
  · rw [if_neg hfl, if_neg hfl]
    unfold fX6_readTraveller_15
    have hb1 := nxX_ge hb
    have hb2 := nxX_ge hb1.2.1
    have hb3 := nxX_ge hb2.2.1
    have hb4 := nxX_ge hb3.2.1
    obtain ⟨τ1, e1, m1, s1⟩ := must_ok hX hb hm
    have k1 : mI τ1 0 24 = nI (iT D.1) := by rw [(s1 0 24 (by omega)).1]; exact d3
    rw [e1, bd_s, if_pos m1.2.2, k1, show (2 : Int32) = nI 2 from rfl, pk_mul]
    obtain ⟨σ1, c1, t1, f1⟩ := C_rd hX hT hb1.2.1 hc.2.2.1 (n := n + 1 + 1) (i := 0) (w := 2) (q2 := q2) (x2 := nI 116) (by decide) (by decide)
    rw [hn, f1]
    by_cases hP : kdX X (skX X (nxX X b)) = 1 ∧ 0 ≤ vlX X (nxX X b) ∧ vlX X (nxX X b) ≤ 40
    · have hv := (kdX_1 hP.1).2
      obtain ⟨τ2, e2, m2, u2, s2⟩ := ri_ok hX hb1.2.1 m1 (b1 := 25) (n1 := 12) (k := 2 * iT D.1) (lo := 0) (hi := 40) (by decide) (by omega) (by decide) hP.1 hP.2.1 hP.2.2 (by decide)
      have e2 : fX6_readInto τ1 0 0 25 12 (nI (2 * iT D.1)) 0 40 = _ := e2
      have k2 : mI τ2 0 24 = nI (iT D.1) := by rw [(s2 0 24 (by omega)).1]; exact k1
      rw [if_pos hP.1, fits_t0 hv (c1.2.2.2 hP.1), bd_s, if_pos hP.2.2, if_neg (show ¬ (1 : Int32) = 0 by decide), e2, bd2_s, k2, pk_mul, nI_1]
      have hT2 : TC (sA σ1 1 6 0 (nI (vlX X (nxX X b)))) X := CTk.keep6 (hT.keep t1 ⟨by omega, by omega⟩)
      obtain ⟨σ2, c2, t2, f2⟩ := C_rd hX hT2 hb2.2.1 (by simp only [mI_sI, mI_sL, mI_sP, mI_sA, mI_sB, mL_sI, mL_sL, mL_sP, mL_sA, mL_sB, mP_sI, mP_sL, mP_sP, mP_sA, mP_sB, mA_sI, mA_sL, mA_sP, mA_sAg, mA_sB, mB_sI, mB_sL, mB_sP, mB_sA, mB_sBg, mE_sI, mE_sL, mE_sP, mE_sA, mE_sB, Nat.reduceEqDiff, Nat.reduceAdd, Nat.reduceMul, Nat.reduceSub, Nat.reduceLT, Nat.reduceLeDiff, Nat.reduceDiv, Nat.reduceMod, Nat.reduceBEq, and_true, true_and, and_false, false_and, and_self, ite_true, ite_false, if_true, if_false, reduceIte, eq_self, not_true, not_false_eq_true, Bool.true_and, Bool.and_true, Bool.false_and, Bool.and_false, Bool.or_true, Bool.true_or, Bool.or_false, Bool.false_or, Bool.not_true, Bool.not_false, reduceCtorEq, upd_e, Nat.add_eq_zero_iff, Nat.add_right_cancel_iff, Nat.add_left_cancel_iff]; exact c1.2.2.1) (n := n + 1) (i := 0 + 1) (w := 2) (q2 := q2) (x2 := nI 116) (by decide) (by decide)
      rw [f2]
      have t12 : sameX (FCi q2) σ σ2 := (FLc_i t1).tr (FL6_i.tr (FLc_i t2))
      have s12 : sameX FMi τ τ2 := (FLw_i s1).tr (s2.mono (fun o k h => by show 19 ≤ k; omega))
      by_cases hP2 : kdX X (skX X (nxX X (nxX X b))) = 1 ∧ 0 ≤ vlX X (nxX X (nxX X b)) ∧ vlX X (nxX X (nxX X b)) ≤ 10
      · have hv2 := (kdX_1 hP2.1).2
        obtain ⟨τ3, e3, m3, u3, s3⟩ := ri_ok hX hb2.2.1 m2 (b1 := 25) (n1 := 12) (k := 2 * iT D.1 + 1) (lo := 0) (hi := 10) (by decide) (by omega) (by decide) hP2.1 hP2.2.1 hP2.2.2 (by decide)
        have e3 : fX6_readInto τ2 0 0 25 12 (nI (2 * iT D.1 + 1)) 0 10 = _ := e3
        have k3 : mI τ3 0 24 = nI (iT D.1) := by rw [(s3 0 24 (by omega)).1]; exact k2
        rw [if_pos hP2.1, fits_t1 hv2 (c2.2.2.2 hP2.1), bd_s, if_pos hP2.2.2, if_neg (show ¬ (1 : Int32) = 0 by decide), e3, bd2_s]
        have hT3 : TC (sA σ2 1 6 (0 + 1) (nI (vlX X (nxX X (nxX X b))))) X := CTk.keep6 (hT2.keep t2 ⟨by omega, by omega⟩)
        obtain ⟨σ3, c3, t3, f3⟩ := C_rdE hX hT3 hb3.2.1 (by simp only [mI_sI, mI_sL, mI_sP, mI_sA, mI_sB, mL_sI, mL_sL, mL_sP, mL_sA, mL_sB, mP_sI, mP_sL, mP_sP, mP_sA, mP_sB, mA_sI, mA_sL, mA_sP, mA_sAg, mA_sB, mB_sI, mB_sL, mB_sP, mB_sA, mB_sBg, mE_sI, mE_sL, mE_sP, mE_sA, mE_sB, Nat.reduceEqDiff, Nat.reduceAdd, Nat.reduceMul, Nat.reduceSub, Nat.reduceLT, Nat.reduceLeDiff, Nat.reduceDiv, Nat.reduceMod, Nat.reduceBEq, and_true, true_and, and_false, false_and, and_self, ite_true, ite_false, if_true, if_false, reduceIte, eq_self, not_true, not_false_eq_true, Bool.true_and, Bool.and_true, Bool.false_and, Bool.and_false, Bool.or_true, Bool.true_or, Bool.or_false, Bool.false_or, Bool.not_true, Bool.not_false, reduceCtorEq, upd_e, Nat.add_eq_zero_iff, Nat.add_right_cancel_iff, Nat.add_left_cancel_iff]; exact c2.2.2.1) (n := n) (w := 2) (q2 := q2) (x2 := nI 116) (by decide)
        have f3 : fX4_readItem_41 1 (n + 1) (sA σ2 1 6 (0 + 1) (nI (vlX X (nxX X (nxX X b))))) q2 (nI 116) (nI 2) (nI (0 + 1 + 1)) = _ := f3
        rw [f3]
        have t13 : sameX (FCi q2) σ σ3 := t12.tr (FL6_i.tr (FLc_i t3))
        have s13 : sameX FMi τ τ3 := s12.tr (s3.mono (fun o k h => by show 19 ≤ k; omega))
        by_cases hS : kdX X (skX X (nxX X (nxX X (nxX X b)))) = 59
        · obtain ⟨τ4, e4, m4, s4⟩ := stopY hX _ hg hb3.2.1 m3 hS
          have v0 : mA σ3 1 6 0 = nI (vlX X (nxX X b)) := by
            rw [(t3 1 6 (by omega)).2.2.2.1]
            simp only [mI_sI, mI_sL, mI_sP, mI_sA, mI_sB, mL_sI, mL_sL, mL_sP, mL_sA, mL_sB, mP_sI, mP_sL, mP_sP, mP_sA, mP_sB, mA_sI, mA_sL, mA_sP, mA_sAg, mA_sB, mB_sI, mB_sL, mB_sP, mB_sA, mB_sBg, mE_sI, mE_sL, mE_sP, mE_sA, mE_sB, Nat.reduceEqDiff, Nat.reduceAdd, Nat.reduceMul, Nat.reduceSub, Nat.reduceLT, Nat.reduceLeDiff, Nat.reduceDiv, Nat.reduceMod, Nat.reduceBEq, and_true, true_and, and_false, false_and, and_self, ite_true, ite_false, if_true, if_false, reduceIte, eq_self, not_true, not_false_eq_true, Bool.true_and, Bool.and_true, Bool.false_and, Bool.and_false, Bool.or_true, Bool.true_or, Bool.or_false, Bool.false_or, Bool.not_true, Bool.not_false, reduceCtorEq, upd_e, Nat.add_eq_zero_iff, Nat.add_right_cancel_iff, Nat.add_left_cancel_iff]
            rw [(t2 1 6 (by omega)).2.2.2.1]
            simp only [mI_sI, mI_sL, mI_sP, mI_sA, mI_sB, mL_sI, mL_sL, mL_sP, mL_sA, mL_sB, mP_sI, mP_sL, mP_sP, mP_sA, mP_sB, mA_sI, mA_sL, mA_sP, mA_sAg, mA_sB, mB_sI, mB_sL, mB_sP, mB_sA, mB_sBg, mE_sI, mE_sL, mE_sP, mE_sA, mE_sB, Nat.reduceEqDiff, Nat.reduceAdd, Nat.reduceMul, Nat.reduceSub, Nat.reduceLT, Nat.reduceLeDiff, Nat.reduceDiv, Nat.reduceMod, Nat.reduceBEq, and_true, true_and, and_false, false_and, and_self, ite_true, ite_false, if_true, if_false, reduceIte, eq_self, not_true, not_false_eq_true, Bool.true_and, Bool.and_true, Bool.false_and, Bool.and_false, Bool.or_true, Bool.true_or, Bool.or_false, Bool.false_or, Bool.not_true, Bool.not_false, reduceCtorEq, upd_e, Nat.add_eq_zero_iff, Nat.add_right_cancel_iff, Nat.add_left_cancel_iff]
          have v1 : mA σ3 1 6 1 = nI (vlX X (nxX X (nxX X b))) := by
            rw [(t3 1 6 (by omega)).2.2.2.1]
            simp only [mI_sI, mI_sL, mI_sP, mI_sA, mI_sB, mL_sI, mL_sL, mL_sP, mL_sA, mL_sB, mP_sI, mP_sL, mP_sP, mP_sA, mP_sB, mA_sI, mA_sL, mA_sP, mA_sAg, mA_sB, mB_sI, mB_sL, mB_sP, mB_sA, mB_sBg, mE_sI, mE_sL, mE_sP, mE_sA, mE_sB, Nat.reduceEqDiff, Nat.reduceAdd, Nat.reduceMul, Nat.reduceSub, Nat.reduceLT, Nat.reduceLeDiff, Nat.reduceDiv, Nat.reduceMod, Nat.reduceBEq, and_true, true_and, and_false, false_and, and_self, ite_true, ite_false, if_true, if_false, reduceIte, eq_self, not_true, not_false_eq_true, Bool.true_and, Bool.and_true, Bool.false_and, Bool.and_false, Bool.or_true, Bool.true_or, Bool.or_false, Bool.false_or, Bool.not_true, Bool.not_false, reduceCtorEq, upd_e, Nat.add_eq_zero_iff, Nat.add_right_cancel_iff, Nat.add_left_cancel_iff]
          have i3 : IC σ3 q2 D.1 := by
            have z1 := hCD.1.keep t1 (fun k => by omega)
            have z2 : IC (sA σ1 1 6 0 (nI (vlX X (nxX X b)))) q2 D.1 := z1.keep (F := fun o k => o = 1 ∧ k = 6) (by repeat (first | exact sameX.rf | refine sameX.sI ?_ (by first | rfl | exact Or.inl rfl | exact Or.inr rfl | trivial | decide | omega | simp) _ | refine sameX.sA ?_ (by first | rfl | exact Or.inl rfl | exact Or.inr rfl | trivial | decide | omega | simp) _ _ | refine sameX.sL ?_ (by first | rfl | exact Or.inl rfl | exact Or.inr rfl | trivial | decide | omega | simp) _ | refine sameX.sP ?_ (by first | rfl | exact Or.inl rfl | exact Or.inr rfl | trivial | decide | omega | simp) _ | refine sameX.sB ?_ (by first | rfl | exact Or.inl rfl | exact Or.inr rfl | trivial | decide | omega | simp) _ _)) (fun k => by omega)
            have z3 := z2.keep t2 (fun k => by omega)
            have z4 : IC (sA σ2 1 6 (0 + 1) (nI (vlX X (nxX X (nxX X b))))) q2 D.1 := z3.keep (F := fun o k => o = 1 ∧ k = 6) (by repeat (first | exact sameX.rf | refine sameX.sI ?_ (by first | rfl | exact Or.inl rfl | exact Or.inr rfl | trivial | decide | omega | simp) _ | refine sameX.sA ?_ (by first | rfl | exact Or.inl rfl | exact Or.inr rfl | trivial | decide | omega | simp) _ _ | refine sameX.sL ?_ (by first | rfl | exact Or.inl rfl | exact Or.inr rfl | trivial | decide | omega | simp) _ | refine sameX.sP ?_ (by first | rfl | exact Or.inl rfl | exact Or.inr rfl | trivial | decide | omega | simp) _ | refine sameX.sB ?_ (by first | rfl | exact Or.inl rfl | exact Or.inr rfl | trivial | decide | omega | simp) _ _)) (fun k => by omega)
            exact z4.keep t3 (fun k => by omega)
          obtain ⟨σ4, e5, i4, t4⟩ := C_addT i3 ok (by omega) (c := vlX X (nxX X b)) (x := vlX X (nxX X (nxX X b))) hP.2.2
          have k4 : mI τ4 0 24 = nI (iT D.1) := by rw [(s4 0 24 (by omega)).1]; exact k3
          rw [if_pos hS, tell_t, v0, v1, e5, bd_s, bd_s, e4, k4, nI_1]
          have s5 : sameX (fun _ k => k = 24) τ4 (sI τ4 0 24 (nI (iT D.1 + 1))) := by repeat (first | exact sameX.rf | refine sameX.sI ?_ (by first | rfl | exact Or.inl rfl | exact Or.inr rfl | trivial | decide | omega | simp) _ | refine sameX.sA ?_ (by first | rfl | exact Or.inl rfl | exact Or.inr rfl | trivial | decide | omega | simp) _ _ | refine sameX.sL ?_ (by first | rfl | exact Or.inl rfl | exact Or.inr rfl | trivial | decide | omega | simp) _ | refine sameX.sP ?_ (by first | rfl | exact Or.inl rfl | exact Or.inr rfl | trivial | decide | omega | simp) _ | refine sameX.sB ?_ (by first | rfl | exact Or.inl rfl | exact Or.inr rfl | trivial | decide | omega | simp) _ _)
          refine ⟨_, _, rfl, t13.tr (t4.mono (fun o k h => Or.inr h)), (s13.tr (FLw_i s4)).tr (s5.mono (fun o k h => by show 19 ≤ k; omega)), Or.inl ⟨rfl, (addT D.1 (vlX X (nxX X b)) (vlX X (nxX X (nxX X b))), D.2), nxX X (nxX X (nxX X (nxX X b))), addT_ok ok (by omega) hP.2.2 hP2.2.2, ⟨i4, fun j hj => ?_⟩, ?_, ?_, m4.keep s5 (fun k h1 h2 => by omega), ?_, hb4.2.1⟩⟩
          · rw [(t4 1 (7 + j) (by omega)).1, (t3 1 (7 + j) (by omega)).1]
            show mI σ2 1 (7 + j) = _
            rw [(t2 1 (7 + j) (by omega)).1]
            show mI σ1 1 (7 + j) = _
            rw [(t1 1 (7 + j) (by omega)).1]; exact hCD.2 j hj
          · have w25 : ∀ j, mA (sI τ4 0 24 (nI (iT D.1 + 1))) 0 25 j = if j = 2 * iT D.1 + 1 then nI (vlX X (nxX X (nxX X b))) else if j = 2 * iT D.1 then nI (vlX X (nxX X b)) else mA τ 0 25 j := fun j => by
              show mA τ4 0 25 j = _
              rw [(s4 0 25 (by omega)).2.2.2.1, u3, u2, (s1 0 25 (by omega)).2.2.2.1]; rfl
            have sAll : sameX (fun _ k => (19 ≤ k ∧ k ≤ 25)) τ (sI τ4 0 24 (nI (iT D.1 + 1))) := (s1.mono (fun o k h => by omega)).tr ((s2.mono (fun o k h => by omega)).tr ((s3.mono (fun o k h => by omega)).tr ((s4.mono (fun o k h => by omega)).tr (s5.mono (fun o k h => by omega)))))
            refine ⟨by rw [(sAll 0 28 (by omega)).2.2.2.1]; exact d0, by rw [(sAll 0 28 (by omega)).2.2.2.1]; exact d1, by rw [(sAll 0 28 (by omega)).2.2.2.1]; exact d2, by simp only [mI_sI, mI_sL, mI_sP, mI_sA, mI_sB, mL_sI, mL_sL, mL_sP, mL_sA, mL_sB, mP_sI, mP_sL, mP_sP, mP_sA, mP_sB, mA_sI, mA_sL, mA_sP, mA_sAg, mA_sB, mB_sI, mB_sL, mB_sP, mB_sA, mB_sBg, mE_sI, mE_sL, mE_sP, mE_sA, mE_sB, Nat.reduceEqDiff, Nat.reduceAdd, Nat.reduceMul, Nat.reduceSub, Nat.reduceLT, Nat.reduceLeDiff, Nat.reduceDiv, Nat.reduceMod, Nat.reduceBEq, and_true, true_and, and_false, false_and, and_self, ite_true, ite_false, if_true, if_false, reduceIte, eq_self, not_true, not_false_eq_true, Bool.true_and, Bool.and_true, Bool.false_and, Bool.and_false, Bool.or_true, Bool.true_or, Bool.or_false, Bool.false_or, Bool.not_true, Bool.not_false, reduceCtorEq, upd_e, Nat.add_eq_zero_iff, Nat.add_right_cancel_iff, Nat.add_left_cancel_iff]; rfl, by rw [(sAll 0 26 (by omega)).1]; exact d4, fun t ht => ?_, fun t ht => ?_, by rw [(sAll 0 27 (by omega)).2.2.2.1]; exact d7, by rw [(sAll 0 27 (by omega)).2.2.2.1]; exact d8, by rw [(sAll 0 27 (by omega)).2.2.2.1]; exact d9, by rw [(sAll 0 29 (by omega)).1]; exact d10⟩
            · have ht : t < iT D.1 + 1 := ht
              rw [w25, if_neg (by omega)]
              show _ = nI (if t = iT D.1 then _ else iC D.1 t)
              by_cases e : t = iT D.1
              · rw [if_pos e, if_pos (by omega)]
              · rw [if_neg e, if_neg (by omega)]; exact d5 t (by omega)
            · have ht : t < iT D.1 + 1 := ht
              rw [w25]
              show _ = nI (if t = iT D.1 then _ else iX D.1 t)
              by_cases e : t = iT D.1
              · rw [if_pos e, if_pos (by omega)]
              · rw [if_neg e, if_neg (by omega), if_neg (by omega)]; exact d6 t (by omega)
          · rw [(t4 1 4 (by omega)).1]; exact c3.2.2.1
          · have := hb1.2.2 (kd_lt (by rw [hkd]; decide))
            omega
        · obtain ⟨τ4, e4, w4, s4⟩ := stopN (by decide) _ hg m3 hS
          rw [if_neg hS, e4]
          exact ⟨_, _, rfl, t13, s13.tr s4, Or.inr ⟨rfl, _, c3.2.1, w4, by have := sk_le hb3.2.1; omega⟩⟩
      · obtain ⟨y, e3⟩ := ri_bad m2 (b1 := 25) (n1 := 12) (lo := 0) (hi := 10) (x2 := nI (2 * iT D.1 + 1)) hP2 (by decide) (by decide)
        have e3 : fX6_readInto τ2 0 0 25 12 (nI (2 * iT D.1 + 1)) 0 10 = _ := e3
        rw [e3, bd2_s]
        obtain ⟨τ4, e4, w4, s4⟩ := stopW (by decide) _ hg (wr1 m2.2.1.1)
        rw [e4]
        refine ⟨σ2, τ4, rfl, t12, s12.tr (sameX.tr (by repeat (first | exact sameX.rf | refine sameX.sI ?_ (by first | rfl | exact Or.inl rfl | exact Or.inr rfl | trivial | decide | omega | simp) _ | refine sameX.sA ?_ (by first | rfl | exact Or.inl rfl | exact Or.inr rfl | trivial | decide | omega | simp) _ _ | refine sameX.sL ?_ (by first | rfl | exact Or.inl rfl | exact Or.inr rfl | trivial | decide | omega | simp) _ | refine sameX.sP ?_ (by first | rfl | exact Or.inl rfl | exact Or.inr rfl | trivial | decide | omega | simp) _ | refine sameX.sB ?_ (by first | rfl | exact Or.inl rfl | exact Or.inr rfl | trivial | decide | omega | simp) _ _)) s4), Or.inr ⟨?_, _, c2.2.1, w4, by have := sk_le hb2.2.1; omega⟩⟩
        by_cases hk1 : kdX X (skX X (nxX X (nxX X b))) = 1
        · rw [if_pos hk1, fits_t1 (kdX_1 hk1).2 (c2.2.2.2 hk1), bd_s, if_neg (fun w => hP2 ⟨hk1, Nat.zero_le _, w⟩), if_pos rfl]
        · rw [if_neg hk1]
    · obtain ⟨y, e2⟩ := ri_bad m1 (b1 := 25) (n1 := 12) (lo := 0) (hi := 40) (x2 := nI (2 * iT D.1)) hP (by decide) (by decide)
      have e2 : fX6_readInto τ1 0 0 25 12 (nI (2 * iT D.1)) 0 40 = _ := e2
      have w1 : WRx (sI τ1 0 23 1) (skX X (nxX X b)) := wr1 m1.2.1.1
      obtain ⟨y3, e3⟩ := ri_w w1.1 25 12 (nI 2 * mI (sI τ1 0 23 1) 0 24 + 1) 0 10
      rw [e2, bd2_s, e3, bd2_s]
      obtain ⟨τ4, e4, w4, s4⟩ := stopW (by decide) _ hg (wr1 w1.2)
      rw [e4]
      refine ⟨σ1, τ4, rfl, FLc_i t1, (FLw_i s1).tr (sameX.tr (by repeat (first | exact sameX.rf | refine sameX.sI ?_ (by first | rfl | exact Or.inl rfl | exact Or.inr rfl | trivial | decide | omega | simp) _ | refine sameX.sA ?_ (by first | rfl | exact Or.inl rfl | exact Or.inr rfl | trivial | decide | omega | simp) _ _ | refine sameX.sL ?_ (by first | rfl | exact Or.inl rfl | exact Or.inr rfl | trivial | decide | omega | simp) _ | refine sameX.sP ?_ (by first | rfl | exact Or.inl rfl | exact Or.inr rfl | trivial | decide | omega | simp) _ | refine sameX.sB ?_ (by first | rfl | exact Or.inl rfl | exact Or.inr rfl | trivial | decide | omega | simp) _ _)) s4), Or.inr ⟨?_, _, c1.2.1, w4, by have := sk_le hb1.2.1; omega⟩⟩
      by_cases hk1 : kdX X (skX X (nxX X b)) = 1
      · rw [if_pos hk1, fits_t0 (kdX_1 hk1).2 (c1.2.2.2 hk1), bd_s, if_neg (fun w => hP ⟨hk1, Nat.zero_le _, w⟩), if_pos rfl]
      · rw [if_neg hk1]
