/-! clerks -/
theorem sel5 {α : Type} (g : Int32 → α) (tk r m : Int32) : (if tk = (2 : Int32) then (if r = (10 : Int32) then (if m = (10 : Int32) then g 1 else g 0) else (if (10 : Int32) ≤ m then g 0 else (if m = r then g 0 else g 1))) else g 0) = g (if tk = 2 ∧ ((r = 10 ∧ m = 10) ∨ (¬ r = 10 ∧ ¬ (10 : Int32) ≤ m ∧ ¬ m = r)) then 1 else 0) := by
  by_cases h1 : tk = 2
  · rw [if_pos h1]
    by_cases h2 : r = 10
    · rw [if_pos h2]
      by_cases h3 : m = 10
      · rw [if_pos h3, if_pos ⟨h1, Or.inl ⟨h2, h3⟩⟩]
      · rw [if_neg h3, if_neg (fun w => w.2.elim (fun w => h3 w.2) (fun w => w.1 h2))]
    · rw [if_neg h2]
      by_cases h3 : (10 : Int32) ≤ m
      · rw [if_pos h3, if_neg (fun w => w.2.elim (fun w => h2 w.1) (fun w => w.2.1 h3))]
      · rw [if_neg h3]
        by_cases h4 : m = r
        · rw [if_pos h4, if_neg (fun w => w.2.elim (fun w => h2 w.1) (fun w => w.2.2 h4))]
        · rw [if_neg h4, if_pos ⟨h1, Or.inr ⟨h2, h3, h4⟩⟩]
  · rw [if_neg h1, if_neg (fun w => h1 w.1)]
theorem hg132 : ∀ (τ : Mem) (xs : Int32), fX6_readClerk_132 0 τ xs = bd (fX6_must τ 0 xs) (fun σ => some (sI σ 0 26 (mI σ 0 26 + 1))) := fun _ _ => rfl
theorem M_106w {τ : Mem} {p K : Nat} (hK : K < 4) (h : WRx τ p) (x3 xs : Int32) : ∃ τ', fX6_readClerk_106 0 τ (nI (3 * K)) x3 xs = some τ' ∧ WRx τ' p ∧ sameX FMi τ τ' := by
  have w2 : WRx (sA (sI τ 0 23 1) 0 27 (3 * K + 2) x3) p := (wr1 h.2).keep (F := fun _ k => k = 27) (by repeat (first | exact sameX.rf | refine sameX.sI ?_ (by first | rfl | exact Or.inl rfl | exact Or.inr rfl | trivial | decide | omega | simp) _ | refine sameX.sA ?_ (by first | rfl | exact Or.inl rfl | exact Or.inr rfl | trivial | decide | omega | simp) _ _ | refine sameX.sL ?_ (by first | rfl | exact Or.inl rfl | exact Or.inr rfl | trivial | decide | omega | simp) _ | refine sameX.sP ?_ (by first | rfl | exact Or.inl rfl | exact Or.inr rfl | trivial | decide | omega | simp) _ | refine sameX.sB ?_ (by first | rfl | exact Or.inl rfl | exact Or.inr rfl | trivial | decide | omega | simp) _ _)) ⟨by omega, by omega⟩
  obtain ⟨τ', e, w, s⟩ := stopW (slot := 26) (by decide) (fun σ => mI σ 0 26 + 1) hg132 w2
  refine ⟨τ', ?_, w, sameX.tr (by repeat (first | exact sameX.rf | refine sameX.sI ?_ (by first | rfl | exact Or.inl rfl | exact Or.inr rfl | trivial | decide | omega | simp) _ | refine sameX.sA ?_ (by first | rfl | exact Or.inl rfl | exact Or.inr rfl | trivial | decide | omega | simp) _ _ | refine sameX.sL ?_ (by first | rfl | exact Or.inl rfl | exact Or.inr rfl | trivial | decide | omega | simp) _ | refine sameX.sP ?_ (by first | rfl | exact Or.inl rfl | exact Or.inr rfl | trivial | decide | omega | simp) _ | refine sameX.sB ?_ (by first | rfl | exact Or.inl rfl | exact Or.inr rfl | trivial | decide | omega | simp) _ _)) s⟩
  unfold fX6_readClerk_106
  rw [must_w h.1, bd_s, show (2 : Int32) = nI 2 from rfl, nI_add, gd_in (show 3 * K + 2 < 12 by omega) (by decide), clampN (by omega), stp_s]
  exact e
theorem it_clerk {X : XV} (hX : XOK X) {σ τ : Mem} {q2 b : Nat} {D : DV} (hT : TC σ X) (hc : CTk σ X b) (hm : MOKx τ X b) (hCD : CDr σ q2 D) (hMD : MDr τ D) (ok : IOK D.1) (hq : q2 = 2 ∨ q2 = 3) (hb : b ≤ X.1) (hkd : kdX X (skX X b) = 107) : ItX X q2 b σ τ (if 4 ≤ iK D.1 then some (0, σ) else fX4_readItem_41 1 FU σ q2 (nI 107) (nI 3) (nI 0)) (fX6_readClerk τ 0) := by
  have hL := hX.1
  have hsk := sk_le hb
  have hK4 := ok.2.2.2.2.1
  obtain ⟨n, hn⟩ : ∃ m, FU = m + 1 + 1 + 1 + 1 := ⟨996, rfl⟩
  obtain ⟨d0, d1, d2, d3, d4, d5, d6, d7, d8, d9, d10⟩ := id hMD
  unfold fX6_readClerk ItX
  rw [d4, show (4 : Int32) = nI 4 from rfl, iteLE (by omega) (by omega)]
  by_cases hfl : 4 ≤ iK D.1
  · rw [if_pos hfl, if_pos hfl]
    have h23 : ¬ mI (sI τ 0 23 1) 0 23 = 0 := by simp only [mI_sI, mI_sL, mI_sP, mI_sA, mI_sB, mL_sI, mL_sL, mL_sP, mL_sA, mL_sB, mP_sI, mP_sL, mP_sP, mP_sA, mP_sB, mA_sI, mA_sL, mA_sP, mA_sAg, mA_sB, mB_sI, mB_sL, mB_sP, mB_sA, mB_sBg, mE_sI, mE_sL, mE_sP, mE_sA, mE_sB, Nat.reduceEqDiff, Nat.reduceAdd, Nat.reduceMul, Nat.reduceSub, Nat.reduceLT, Nat.reduceLeDiff, Nat.reduceDiv, Nat.reduceMod, Nat.reduceBEq, and_true, true_and, and_false, false_and, and_self, ite_true, ite_false, if_true, if_false, reduceIte, eq_self, not_true, not_false_eq_true, Bool.true_and, Bool.and_true, Bool.false_and, Bool.and_false, Bool.or_true, Bool.true_or, Bool.or_false, Bool.false_or, Bool.not_true, Bool.not_false, reduceCtorEq, upd_e, Nat.add_eq_zero_iff, Nat.add_right_cancel_iff, Nat.add_left_cancel_iff]; decide
    refine ⟨σ, sI τ 0 23 1, ?_, sameX.rf, by repeat (first | exact sameX.rf | refine sameX.sI ?_ (by first | rfl | exact Or.inl rfl | exact Or.inr rfl | trivial | decide | omega | simp) _ | refine sameX.sA ?_ (by first | rfl | exact Or.inl rfl | exact Or.inr rfl | trivial | decide | omega | simp) _ _ | refine sameX.sL ?_ (by first | rfl | exact Or.inl rfl | exact Or.inr rfl | trivial | decide | omega | simp) _ | refine sameX.sP ?_ (by first | rfl | exact Or.inl rfl | exact Or.inr rfl | trivial | decide | omega | simp) _ | refine sameX.sB ?_ (by first | rfl | exact Or.inl rfl | exact Or.inr rfl | trivial | decide | omega | simp) _ _), Or.inr ⟨rfl, skX X b, hc.2.1, wr1 hm.2.1.1, by omega⟩⟩
    unfold fX6_readClerk_14
    rw [must_bad hm.2.2, bd_s, if_neg h23]
  · rw [if_neg hfl, if_neg hfl]
    have hK : iK D.1 < 4 := by omega
    unfold fX6_readClerk_14
    have hb1 := nxX_ge hb
    have hb2 := nxX_ge hb1.2.1
    have hb3 := nxX_ge hb2.2.1
    have hb4 := nxX_ge hb3.2.1
    have hb5 := nxX_ge hb4.2.1
    obtain ⟨τ1, e1, m1, s1⟩ := must_ok hX hb hm
    have k1 : mI τ1 0 26 = nI (iK D.1) := by rw [(s1 0 26 (by omega)).1]; exact d4
    rw [e1, bd_s, if_pos m1.2.2, k1, show (3 : Int32) = nI 3 from rfl, pk_mul, nI_1]
    obtain ⟨σ1, c1, t1, f1⟩ := C_rd hX hT hb1.2.1 hc.2.2.1 (n := n + 1 + 1 + 1) (i := 0) (w := 3) (q2 := q2) (x2 := nI 107) (by decide) (by decide)
    rw [hn, f1]
    by_cases hP : kdX X (skX X (nxX X b)) = 1 ∧ 0 ≤ vlX X (nxX X b) ∧ vlX X (nxX X b) ≤ 1023
    · have hv := (kdX_1 hP.1).2
      obtain ⟨τ2, e2, m2, u2, s2⟩ := ri_ok hX hb1.2.1 m1 (b1 := 27) (n1 := 12) (k := 3 * iK D.1) (lo := 0) (hi := 1023) (by decide) (by omega) (by decide) hP.1 hP.2.1 hP.2.2 (by decide)
      have e2 : fX6_readInto τ1 0 0 27 12 (nI (3 * iK D.1)) 0 1023 = _ := e2
      rw [if_pos hP.1, fits_k0 hv (c1.2.2.2 hP.1), bd_s, if_neg (show ¬ (1 : Int32) = 0 by decide), e2, bd2_s]
      have hT2 : TC (sA σ1 1 6 0 (nI (vlX X (nxX X b)))) X := CTk.keep6 (hT.keep t1 ⟨by omega, by omega⟩)
      obtain ⟨σ2, c2, t2, f2⟩ := C_rd hX hT2 hb2.2.1 (by simp only [mI_sI, mI_sL, mI_sP, mI_sA, mI_sB, mL_sI, mL_sL, mL_sP, mL_sA, mL_sB, mP_sI, mP_sL, mP_sP, mP_sA, mP_sB, mA_sI, mA_sL, mA_sP, mA_sAg, mA_sB, mB_sI, mB_sL, mB_sP, mB_sA, mB_sBg, mE_sI, mE_sL, mE_sP, mE_sA, mE_sB, Nat.reduceEqDiff, Nat.reduceAdd, Nat.reduceMul, Nat.reduceSub, Nat.reduceLT, Nat.reduceLeDiff, Nat.reduceDiv, Nat.reduceMod, Nat.reduceBEq, and_true, true_and, and_false, false_and, and_self, ite_true, ite_false, if_true, if_false, reduceIte, eq_self, not_true, not_false_eq_true, Bool.true_and, Bool.and_true, Bool.false_and, Bool.and_false, Bool.or_true, Bool.true_or, Bool.or_false, Bool.false_or, Bool.not_true, Bool.not_false, reduceCtorEq, upd_e, Nat.add_eq_zero_iff, Nat.add_right_cancel_iff, Nat.add_left_cancel_iff]; exact c1.2.2.1) (n := n + 1 + 1) (i := 0 + 1) (w := 3) (q2 := q2) (x2 := nI 107) (by decide) (by decide)
      rw [f2]
      have t12 : sameX (FCi q2) σ σ2 := (FLc_i t1).tr (FL6_i.tr (FLc_i t2))
      have s12 : sameX FMi τ τ2 := (FLw_i s1).tr (s2.mono (fun o k h => by show 19 ≤ k; omega))
      by_cases hP2 : kdX X (skX X (nxX X (nxX X b))) = 1 ∧ 0 ≤ vlX X (nxX X (nxX X b)) ∧ vlX X (nxX X (nxX X b)) ≤ 10
      · have hv2 := (kdX_1 hP2.1).2
        obtain ⟨τ3, e3, m3, u3, s3⟩ := ri_ok hX hb2.2.1 m2 (b1 := 27) (n1 := 12) (k := 3 * iK D.1 + 1) (lo := 0) (hi := 10) (by decide) (by omega) (by decide) hP2.1 hP2.2.1 hP2.2.2 (by decide)
        have e3 : fX6_readInto τ2 0 0 27 12 (nI (3 * iK D.1 + 1)) 0 10 = _ := e3
        rw [if_pos hP2.1, fits_k1 hv2 (c2.2.2.2 hP2.1), bd_s, if_pos hP2.2.2, if_neg (show ¬ (1 : Int32) = 0 by decide), e3, bd2_s]
        have hT3 : TC (sA σ2 1 6 (0 + 1) (nI (vlX X (nxX X (nxX X b))))) X := CTk.keep6 (hT2.keep t2 ⟨by omega, by omega⟩)
        obtain ⟨σ3, c3, t3, f3⟩ := C_rd hX hT3 hb3.2.1 (by simp only [mI_sI, mI_sL, mI_sP, mI_sA, mI_sB, mL_sI, mL_sL, mL_sP, mL_sA, mL_sB, mP_sI, mP_sL, mP_sP, mP_sA, mP_sB, mA_sI, mA_sL, mA_sP, mA_sAg, mA_sB, mB_sI, mB_sL, mB_sP, mB_sA, mB_sBg, mE_sI, mE_sL, mE_sP, mE_sA, mE_sB, Nat.reduceEqDiff, Nat.reduceAdd, Nat.reduceMul, Nat.reduceSub, Nat.reduceLT, Nat.reduceLeDiff, Nat.reduceDiv, Nat.reduceMod, Nat.reduceBEq, and_true, true_and, and_false, false_and, and_self, ite_true, ite_false, if_true, if_false, reduceIte, eq_self, not_true, not_false_eq_true, Bool.true_and, Bool.and_true, Bool.false_and, Bool.and_false, Bool.or_true, Bool.true_or, Bool.or_false, Bool.false_or, Bool.not_true, Bool.not_false, reduceCtorEq, upd_e, Nat.add_eq_zero_iff, Nat.add_right_cancel_iff, Nat.add_left_cancel_iff]; exact c2.2.2.1) (n := n + 1) (i := 0 + 1 + 1) (w := 3) (q2 := q2) (x2 := nI 107) (by decide) (by decide)
        rw [f3]
        have t13 : sameX (FCi q2) σ σ3 := t12.tr (FL6_i.tr (FLc_i t3))
        have s13 : sameX FMi τ τ3 := s12.tr (s3.mono (fun o k h => by show 19 ≤ k; omega))
        have v0 : mA σ3 1 6 0 = nI (vlX X (nxX X b)) := by
          rw [(t3 1 6 (by omega)).2.2.2.1]
          simp only [mI_sI, mI_sL, mI_sP, mI_sA, mI_sB, mL_sI, mL_sL, mL_sP, mL_sA, mL_sB, mP_sI, mP_sL, mP_sP, mP_sA, mP_sB, mA_sI, mA_sL, mA_sP, mA_sAg, mA_sB, mB_sI, mB_sL, mB_sP, mB_sA, mB_sBg, mE_sI, mE_sL, mE_sP, mE_sA, mE_sB, Nat.reduceEqDiff, Nat.reduceAdd, Nat.reduceMul, Nat.reduceSub, Nat.reduceLT, Nat.reduceLeDiff, Nat.reduceDiv, Nat.reduceMod, Nat.reduceBEq, and_true, true_and, and_false, false_and, and_self, ite_true, ite_false, if_true, if_false, reduceIte, eq_self, not_true, not_false_eq_true, Bool.true_and, Bool.and_true, Bool.false_and, Bool.and_false, Bool.or_true, Bool.true_or, Bool.or_false, Bool.false_or, Bool.not_true, Bool.not_false, reduceCtorEq, upd_e, Nat.add_eq_zero_iff, Nat.add_right_cancel_iff, Nat.add_left_cancel_iff]
          rw [(t2 1 6 (by omega)).2.2.2.1]
          simp only [mI_sI, mI_sL, mI_sP, mI_sA, mI_sB, mL_sI, mL_sL, mL_sP, mL_sA, mL_sB, mP_sI, mP_sL, mP_sP, mP_sA, mP_sB, mA_sI, mA_sL, mA_sP, mA_sAg, mA_sB, mB_sI, mB_sL, mB_sP, mB_sA, mB_sBg, mE_sI, mE_sL, mE_sP, mE_sA, mE_sB, Nat.reduceEqDiff, Nat.reduceAdd, Nat.reduceMul, Nat.reduceSub, Nat.reduceLT, Nat.reduceLeDiff, Nat.reduceDiv, Nat.reduceMod, Nat.reduceBEq, and_true, true_and, and_false, false_and, and_self, ite_true, ite_false, if_true, if_false, reduceIte, eq_self, not_true, not_false_eq_true, Bool.true_and, Bool.and_true, Bool.false_and, Bool.and_false, Bool.or_true, Bool.true_or, Bool.or_false, Bool.false_or, Bool.not_true, Bool.not_false, reduceCtorEq, upd_e, Nat.add_eq_zero_iff, Nat.add_right_cancel_iff, Nat.add_left_cancel_iff]
        have v1 : mA σ3 1 6 1 = nI (vlX X (nxX X (nxX X b))) := by
          rw [(t3 1 6 (by omega)).2.2.2.1]
          simp only [mI_sI, mI_sL, mI_sP, mI_sA, mI_sB, mL_sI, mL_sL, mL_sP, mL_sA, mL_sB, mP_sI, mP_sL, mP_sP, mP_sA, mP_sB, mA_sI, mA_sL, mA_sP, mA_sAg, mA_sB, mB_sI, mB_sL, mB_sP, mB_sA, mB_sBg, mE_sI, mE_sL, mE_sP, mE_sA, mE_sB, Nat.reduceEqDiff, Nat.reduceAdd, Nat.reduceMul, Nat.reduceSub, Nat.reduceLT, Nat.reduceLeDiff, Nat.reduceDiv, Nat.reduceMod, Nat.reduceBEq, and_true, true_and, and_false, false_and, and_self, ite_true, ite_false, if_true, if_false, reduceIte, eq_self, not_true, not_false_eq_true, Bool.true_and, Bool.and_true, Bool.false_and, Bool.and_false, Bool.or_true, Bool.true_or, Bool.or_false, Bool.false_or, Bool.not_true, Bool.not_false, reduceCtorEq, upd_e, Nat.add_eq_zero_iff, Nat.add_right_cancel_iff, Nat.add_left_cancel_iff]
        rw [sel5 (fun x => fX6_readClerk_106 0 τ3 (nI (3 * iK D.1)) (mI τ3 0 22) x)]
        have hcond : (mI τ3 0 21 = 2 ∧ ((nI (vlX X (nxX X (nxX X b))) = 10 ∧ mI τ3 0 22 = 10) ∨ (¬ nI (vlX X (nxX X (nxX X b))) = 10 ∧ ¬ (10 : Int32) ≤ mI τ3 0 22 ∧ ¬ mI τ3 0 22 = nI (vlX X (nxX X (nxX X b)))))) ↔ (kdX X (skX X (nxX X (nxX X (nxX X b)))) = 1 ∧ gwM (vlX X (nxX X (nxX X b))) (vlX X (nxX X (nxX X (nxX X b))))) := by
          rw [m3.2.1.2.1, tmk_2]
          refine and_congr_right (fun hk3 => ?_)
          have hv3 := (kdX_1 hk3).2
          rw [m3.2.1.2.2.2.1 hk3, show (10 : Int32) = nI 10 from rfl, eqN (by omega) (by omega), eqN (by omega) (by omega), leN (by omega) (by omega), eqN (by omega) (by omega)]
          unfold gwM
          rw [Nat.not_le]
        by_cases hP3 : kdX X (skX X (nxX X (nxX X (nxX X b)))) = 1 ∧ gwM (vlX X (nxX X (nxX X b))) (vlX X (nxX X (nxX X (nxX X b))))
        · have hv3 := (kdX_1 hP3.1).2
          rw [if_pos (hcond.mpr hP3), if_pos hP3.1, (fits_k2 hv3 hP2.2.2 (c3.2.2.2 hP3.1) v1).1 hP3.2, bd_s, if_neg (show ¬ (1 : Int32) = 0 by decide), m3.2.1.2.2.2.1 hP3.1]
          have hT4 : TC (sA σ3 1 6 (0 + 1 + 1) (nI (vlX X (nxX X (nxX X (nxX X b)))))) X := CTk.keep6 (hT3.keep t3 ⟨by omega, by omega⟩)
          obtain ⟨σ4, c4, t4, f4⟩ := C_rdE hX hT4 hb4.2.1 (by simp only [mI_sI, mI_sL, mI_sP, mI_sA, mI_sB, mL_sI, mL_sL, mL_sP, mL_sA, mL_sB, mP_sI, mP_sL, mP_sP, mP_sA, mP_sB, mA_sI, mA_sL, mA_sP, mA_sAg, mA_sB, mB_sI, mB_sL, mB_sP, mB_sA, mB_sBg, mE_sI, mE_sL, mE_sP, mE_sA, mE_sB, Nat.reduceEqDiff, Nat.reduceAdd, Nat.reduceMul, Nat.reduceSub, Nat.reduceLT, Nat.reduceLeDiff, Nat.reduceDiv, Nat.reduceMod, Nat.reduceBEq, and_true, true_and, and_false, false_and, and_self, ite_true, ite_false, if_true, if_false, reduceIte, eq_self, not_true, not_false_eq_true, Bool.true_and, Bool.and_true, Bool.false_and, Bool.and_false, Bool.or_true, Bool.true_or, Bool.or_false, Bool.false_or, Bool.not_true, Bool.not_false, reduceCtorEq, upd_e, Nat.add_eq_zero_iff, Nat.add_right_cancel_iff, Nat.add_left_cancel_iff]; exact c3.2.2.1) (n := n) (w := 3) (q2 := q2) (x2 := nI 107) (by decide)
          have f4 : fX4_readItem_41 1 (n + 1) (sA σ3 1 6 (0 + 1 + 1) (nI (vlX X (nxX X (nxX X (nxX X b)))))) q2 (nI 107) (nI 3) (nI (0 + 1 + 1 + 1)) = _ := f4
          rw [f4]
          have t14 : sameX (FCi q2) σ σ4 := t13.tr (FL6_i.tr (FLc_i t4))
          obtain ⟨τ4, e4, m4, s4⟩ := must_ok hX hb3.2.1 m3
          have s5 : sameX (fun _ k => k = 27) τ4 (sA τ4 0 27 (3 * iK D.1 + 2) (nI (vlX X (nxX X (nxX X (nxX X b)))))) := by repeat (first | exact sameX.rf | refine sameX.sI ?_ (by first | rfl | exact Or.inl rfl | exact Or.inr rfl | trivial | decide | omega | simp) _ | refine sameX.sA ?_ (by first | rfl | exact Or.inl rfl | exact Or.inr rfl | trivial | decide | omega | simp) _ _ | refine sameX.sL ?_ (by first | rfl | exact Or.inl rfl | exact Or.inr rfl | trivial | decide | omega | simp) _ | refine sameX.sP ?_ (by first | rfl | exact Or.inl rfl | exact Or.inr rfl | trivial | decide | omega | simp) _ | refine sameX.sB ?_ (by first | rfl | exact Or.inl rfl | exact Or.inr rfl | trivial | decide | omega | simp) _ _)
          have m5 : MOKx (sA τ4 0 27 (3 * iK D.1 + 2) (nI (vlX X (nxX X (nxX X (nxX X b)))))) X (nxX X (nxX X (nxX X (nxX X b)))) := m4.keep s5 (fun k h1 h2 => by omega)
          have s15 : sameX FMi τ (sA τ4 0 27 (3 * iK D.1 + 2) (nI (vlX X (nxX X (nxX X (nxX X b)))))) := (s13.tr (FLw_i s4)).tr (s5.mono (fun o k h => by show 19 ≤ k; omega))
          unfold fX6_readClerk_106
          rw [e4, bd_s, show (2 : Int32) = nI 2 from rfl, nI_add, gd_in (show 3 * iK D.1 + 2 < 12 by omega) (by decide), clampN (by omega), stp_s]
          by_cases hS : kdX X (skX X (nxX X (nxX X (nxX X (nxX X b))))) = 59
          · obtain ⟨τ6, e6, m6, s6⟩ := stopY hX (slot := 26) (fun σ => mI σ 0 26 + 1) hg132 hb4.2.1 m5 hS
            have w0 : mA σ4 1 6 0 = nI (vlX X (nxX X b)) := by
              rw [(t4 1 6 (by omega)).2.2.2.1]
              simp only [mI_sI, mI_sL, mI_sP, mI_sA, mI_sB, mL_sI, mL_sL, mL_sP, mL_sA, mL_sB, mP_sI, mP_sL, mP_sP, mP_sA, mP_sB, mA_sI, mA_sL, mA_sP, mA_sAg, mA_sB, mB_sI, mB_sL, mB_sP, mB_sA, mB_sBg, mE_sI, mE_sL, mE_sP, mE_sA, mE_sB, Nat.reduceEqDiff, Nat.reduceAdd, Nat.reduceMul, Nat.reduceSub, Nat.reduceLT, Nat.reduceLeDiff, Nat.reduceDiv, Nat.reduceMod, Nat.reduceBEq, and_true, true_and, and_false, false_and, and_self, ite_true, ite_false, if_true, if_false, reduceIte, eq_self, not_true, not_false_eq_true, Bool.true_and, Bool.and_true, Bool.false_and, Bool.and_false, Bool.or_true, Bool.true_or, Bool.or_false, Bool.false_or, Bool.not_true, Bool.not_false, reduceCtorEq, upd_e, Nat.add_eq_zero_iff, Nat.add_right_cancel_iff, Nat.add_left_cancel_iff]; exact v0
            have w1 : mA σ4 1 6 1 = nI (vlX X (nxX X (nxX X b))) := by
              rw [(t4 1 6 (by omega)).2.2.2.1]
              simp only [mI_sI, mI_sL, mI_sP, mI_sA, mI_sB, mL_sI, mL_sL, mL_sP, mL_sA, mL_sB, mP_sI, mP_sL, mP_sP, mP_sA, mP_sB, mA_sI, mA_sL, mA_sP, mA_sAg, mA_sB, mB_sI, mB_sL, mB_sP, mB_sA, mB_sBg, mE_sI, mE_sL, mE_sP, mE_sA, mE_sB, Nat.reduceEqDiff, Nat.reduceAdd, Nat.reduceMul, Nat.reduceSub, Nat.reduceLT, Nat.reduceLeDiff, Nat.reduceDiv, Nat.reduceMod, Nat.reduceBEq, and_true, true_and, and_false, false_and, and_self, ite_true, ite_false, if_true, if_false, reduceIte, eq_self, not_true, not_false_eq_true, Bool.true_and, Bool.and_true, Bool.false_and, Bool.and_false, Bool.or_true, Bool.true_or, Bool.or_false, Bool.false_or, Bool.not_true, Bool.not_false, reduceCtorEq, upd_e, Nat.add_eq_zero_iff, Nat.add_right_cancel_iff, Nat.add_left_cancel_iff]; exact v1
            have w2 : mA σ4 1 6 2 = nI (vlX X (nxX X (nxX X (nxX X b)))) := by
              rw [(t4 1 6 (by omega)).2.2.2.1]
              simp only [mI_sI, mI_sL, mI_sP, mI_sA, mI_sB, mL_sI, mL_sL, mL_sP, mL_sA, mL_sB, mP_sI, mP_sL, mP_sP, mP_sA, mP_sB, mA_sI, mA_sL, mA_sP, mA_sAg, mA_sB, mB_sI, mB_sL, mB_sP, mB_sA, mB_sBg, mE_sI, mE_sL, mE_sP, mE_sA, mE_sB, Nat.reduceEqDiff, Nat.reduceAdd, Nat.reduceMul, Nat.reduceSub, Nat.reduceLT, Nat.reduceLeDiff, Nat.reduceDiv, Nat.reduceMod, Nat.reduceBEq, and_true, true_and, and_false, false_and, and_self, ite_true, ite_false, if_true, if_false, reduceIte, eq_self, not_true, not_false_eq_true, Bool.true_and, Bool.and_true, Bool.false_and, Bool.and_false, Bool.or_true, Bool.true_or, Bool.or_false, Bool.false_or, Bool.not_true, Bool.not_false, reduceCtorEq, upd_e, Nat.add_eq_zero_iff, Nat.add_right_cancel_iff, Nat.add_left_cancel_iff]
            have i4 : IC σ4 q2 D.1 := by
              have z1 := hCD.1.keep t1 (fun k => by omega)
              have z2 : IC (sA σ1 1 6 0 (nI (vlX X (nxX X b)))) q2 D.1 := z1.keep (F := fun o k => o = 1 ∧ k = 6) (by repeat (first | exact sameX.rf | refine sameX.sI ?_ (by first | rfl | exact Or.inl rfl | exact Or.inr rfl | trivial | decide | omega | simp) _ | refine sameX.sA ?_ (by first | rfl | exact Or.inl rfl | exact Or.inr rfl | trivial | decide | omega | simp) _ _ | refine sameX.sL ?_ (by first | rfl | exact Or.inl rfl | exact Or.inr rfl | trivial | decide | omega | simp) _ | refine sameX.sP ?_ (by first | rfl | exact Or.inl rfl | exact Or.inr rfl | trivial | decide | omega | simp) _ | refine sameX.sB ?_ (by first | rfl | exact Or.inl rfl | exact Or.inr rfl | trivial | decide | omega | simp) _ _)) (fun k => by omega)
              have z3 := z2.keep t2 (fun k => by omega)
              have z4 : IC (sA σ2 1 6 (0 + 1) (nI (vlX X (nxX X (nxX X b))))) q2 D.1 := z3.keep (F := fun o k => o = 1 ∧ k = 6) (by repeat (first | exact sameX.rf | refine sameX.sI ?_ (by first | rfl | exact Or.inl rfl | exact Or.inr rfl | trivial | decide | omega | simp) _ | refine sameX.sA ?_ (by first | rfl | exact Or.inl rfl | exact Or.inr rfl | trivial | decide | omega | simp) _ _ | refine sameX.sL ?_ (by first | rfl | exact Or.inl rfl | exact Or.inr rfl | trivial | decide | omega | simp) _ | refine sameX.sP ?_ (by first | rfl | exact Or.inl rfl | exact Or.inr rfl | trivial | decide | omega | simp) _ | refine sameX.sB ?_ (by first | rfl | exact Or.inl rfl | exact Or.inr rfl | trivial | decide | omega | simp) _ _)) (fun k => by omega)
              have z5 := z4.keep t3 (fun k => by omega)
              have z6 : IC (sA σ3 1 6 (0 + 1 + 1) (nI (vlX X (nxX X (nxX X (nxX X b)))))) q2 D.1 := z5.keep (F := fun o k => o = 1 ∧ k = 6) (by repeat (first | exact sameX.rf | refine sameX.sI ?_ (by first | rfl | exact Or.inl rfl | exact Or.inr rfl | trivial | decide | omega | simp) _ | refine sameX.sA ?_ (by first | rfl | exact Or.inl rfl | exact Or.inr rfl | trivial | decide | omega | simp) _ _ | refine sameX.sL ?_ (by first | rfl | exact Or.inl rfl | exact Or.inr rfl | trivial | decide | omega | simp) _ | refine sameX.sP ?_ (by first | rfl | exact Or.inl rfl | exact Or.inr rfl | trivial | decide | omega | simp) _ | refine sameX.sB ?_ (by first | rfl | exact Or.inl rfl | exact Or.inr rfl | trivial | decide | omega | simp) _ _)) (fun k => by omega)
              exact z6.keep t4 (fun k => by omega)
            obtain ⟨σ5, e7, i5, t5⟩ := C_addK i4 hK (u := vlX X (nxX X b)) (m := vlX X (nxX X (nxX X b))) (n := vlX X (nxX X (nxX X (nxX X b))))
            have k6 : mI τ6 0 26 = nI (iK D.1) := by
              rw [(s6 0 26 (by omega)).1, (s5 0 26 (by omega)).1, (s4 0 26 (by omega)).1, (s3 0 26 (by omega)).1, (s2 0 26 (by omega)).1]; exact k1
            have e6 : (if mI (sA τ4 0 27 (3 * iK D.1 + 2) (nI (vlX X (nxX X (nxX X (nxX X b)))))) 0 21 = nI 3 then fX6_readClerk_132 0 (sA τ4 0 27 (3 * iK D.1 + 2) (nI (vlX X (nxX X (nxX X (nxX X b)))))) 1 else fX6_readClerk_132 0 (sA τ4 0 27 (3 * iK D.1 + 2) (nI (vlX X (nxX X (nxX X (nxX X b)))))) 0) = some (sI τ6 0 26 (mI τ6 0 26 + 1)) := e6
            rw [k6, nI_1] at e6
            rw [if_pos hS, tell_k, w0, w1, w2, e7, bd_s, bd_s]
            have s7 : sameX (fun _ k => k = 26) τ6 (sI τ6 0 26 (nI (iK D.1 + 1))) := by repeat (first | exact sameX.rf | refine sameX.sI ?_ (by first | rfl | exact Or.inl rfl | exact Or.inr rfl | trivial | decide | omega | simp) _ | refine sameX.sA ?_ (by first | rfl | exact Or.inl rfl | exact Or.inr rfl | trivial | decide | omega | simp) _ _ | refine sameX.sL ?_ (by first | rfl | exact Or.inl rfl | exact Or.inr rfl | trivial | decide | omega | simp) _ | refine sameX.sP ?_ (by first | rfl | exact Or.inl rfl | exact Or.inr rfl | trivial | decide | omega | simp) _ | refine sameX.sB ?_ (by first | rfl | exact Or.inl rfl | exact Or.inr rfl | trivial | decide | omega | simp) _ _)
            have hgw := hP3.2
            unfold gwM at hgw
            refine ⟨_, _, e6, t14.tr (t5.mono (fun o k h => Or.inr h)), (s15.tr (FLw_i s6)).tr (s7.mono (fun o k h => by show 19 ≤ k; omega)), Or.inl ⟨rfl, (addK D.1 (vlX X (nxX X b)) (vlX X (nxX X (nxX X b))) (vlX X (nxX X (nxX X (nxX X b)))), D.2), nxX X (nxX X (nxX X (nxX X (nxX X b)))), addK_ok ok hK hP.2.2 hP2.2.2 (by omega), ⟨i5, fun j hj => ?_⟩, ?_, ?_, m6.keep s7 (fun k h1 h2 => by omega), ?_, hb5.2.1⟩⟩
            · rw [(t5 1 (7 + j) (by omega)).1, (t4 1 (7 + j) (by omega)).1]
              show mI σ3 1 (7 + j) = _
              rw [(t3 1 (7 + j) (by omega)).1]
              show mI σ2 1 (7 + j) = _
              rw [(t2 1 (7 + j) (by omega)).1]
              show mI σ1 1 (7 + j) = _
              rw [(t1 1 (7 + j) (by omega)).1]; exact hCD.2 j hj
            · have w27 : ∀ j, mA (sI τ6 0 26 (nI (iK D.1 + 1))) 0 27 j = if j = 3 * iK D.1 + 2 then nI (vlX X (nxX X (nxX X (nxX X b)))) else if j = 3 * iK D.1 + 1 then nI (vlX X (nxX X (nxX X b))) else if j = 3 * iK D.1 then nI (vlX X (nxX X b)) else mA τ 0 27 j := fun j => by
                show mA τ6 0 27 j = _
                rw [(s6 0 27 (by omega)).2.2.2.1]
                simp only [mA_sAg, and_self, if_true]
                rw [(s4 0 27 (by omega)).2.2.2.1, u3, u2, (s1 0 27 (by omega)).2.2.2.1]; rfl
              have sAll : sameX (fun _ k => (19 ≤ k ∧ k ≤ 23) ∨ k = 26 ∨ k = 27) τ (sI τ6 0 26 (nI (iK D.1 + 1))) := (s1.mono (fun o k h => by omega)).tr ((s2.mono (fun o k h => by omega)).tr ((s3.mono (fun o k h => by omega)).tr ((s4.mono (fun o k h => by omega)).tr ((s5.mono (fun o k h => by omega)).tr ((s6.mono (fun o k h => by omega)).tr (s7.mono (fun o k h => by omega)))))))
              refine ⟨by rw [(sAll 0 28 (by omega)).2.2.2.1]; exact d0, by rw [(sAll 0 28 (by omega)).2.2.2.1]; exact d1, by rw [(sAll 0 28 (by omega)).2.2.2.1]; exact d2, by rw [(sAll 0 24 (by omega)).1]; exact d3, by simp only [mI_sI, mI_sL, mI_sP, mI_sA, mI_sB, mL_sI, mL_sL, mL_sP, mL_sA, mL_sB, mP_sI, mP_sL, mP_sP, mP_sA, mP_sB, mA_sI, mA_sL, mA_sP, mA_sAg, mA_sB, mB_sI, mB_sL, mB_sP, mB_sA, mB_sBg, mE_sI, mE_sL, mE_sP, mE_sA, mE_sB, Nat.reduceEqDiff, Nat.reduceAdd, Nat.reduceMul, Nat.reduceSub, Nat.reduceLT, Nat.reduceLeDiff, Nat.reduceDiv, Nat.reduceMod, Nat.reduceBEq, and_true, true_and, and_false, false_and, and_self, ite_true, ite_false, if_true, if_false, reduceIte, eq_self, not_true, not_false_eq_true, Bool.true_and, Bool.and_true, Bool.false_and, Bool.and_false, Bool.or_true, Bool.true_or, Bool.or_false, Bool.false_or, Bool.not_true, Bool.not_false, reduceCtorEq, upd_e, Nat.add_eq_zero_iff, Nat.add_right_cancel_iff, Nat.add_left_cancel_iff]; rfl, by rw [(sAll 0 25 (by omega)).2.2.2.1]; exact d5, by rw [(sAll 0 25 (by omega)).2.2.2.1]; exact d6, fun j hj => ?_, fun j hj => ?_, fun j hj => ?_, by rw [(sAll 0 29 (by omega)).1]; exact d10⟩
              · have hj : j < iK D.1 + 1 := hj
                rw [w27, if_neg (by omega), if_neg (by omega)]
                show _ = nI (if j = iK D.1 then _ else iU D.1 j)
                by_cases e : j = iK D.1
                · rw [if_pos e, if_pos (by omega)]
                · rw [if_neg e, if_neg (by omega)]; exact d7 j (by omega)
              · have hj : j < iK D.1 + 1 := hj
                rw [w27, if_neg (by omega)]
                show _ = nI (if j = iK D.1 then _ else iM D.1 j)
                by_cases e : j = iK D.1
                · rw [if_pos e, if_pos (by omega)]
                · rw [if_neg e, if_neg (by omega), if_neg (by omega)]; exact d8 j (by omega)
              · have hj : j < iK D.1 + 1 := hj
                rw [w27]
                show _ = nI (if j = iK D.1 then _ else iN D.1 j)
                by_cases e : j = iK D.1
                · rw [if_pos e, if_pos (by omega)]
                · rw [if_neg e, if_neg (by omega), if_neg (by omega), if_neg (by omega)]; exact d9 j (by omega)
            · rw [(t5 1 4 (by omega)).1]; exact c4.2.2.1
            · have := hb1.2.2 (kd_lt (by rw [hkd]; decide))
              omega
          · obtain ⟨τ6, e6, w6, s6⟩ := stopN (slot := 26) (by decide) (fun σ => mI σ 0 26 + 1) hg132 m5 hS
            rw [if_neg hS]
            exact ⟨_, _, e6, t14, s15.tr s6, Or.inr ⟨rfl, _, c4.2.1, w6, by have := sk_le hb4.2.1; omega⟩⟩
        · rw [if_neg (fun w => hP3 (hcond.mp w))]
          have s4 : sameX FMi τ3 (sI τ3 0 23 1) := by repeat (first | exact sameX.rf | refine sameX.sI ?_ (by first | rfl | exact Or.inl rfl | exact Or.inr rfl | trivial | decide | omega | simp) _ | refine sameX.sA ?_ (by first | rfl | exact Or.inl rfl | exact Or.inr rfl | trivial | decide | omega | simp) _ _ | refine sameX.sL ?_ (by first | rfl | exact Or.inl rfl | exact Or.inr rfl | trivial | decide | omega | simp) _ | refine sameX.sP ?_ (by first | rfl | exact Or.inl rfl | exact Or.inr rfl | trivial | decide | omega | simp) _ | refine sameX.sB ?_ (by first | rfl | exact Or.inl rfl | exact Or.inr rfl | trivial | decide | omega | simp) _ _)
          have w5 : WRx (sA (sI τ3 0 23 1) 0 27 (3 * iK D.1 + 2) (mI τ3 0 22)) (skX X (nxX X (nxX X (nxX X b)))) := (wr1 m3.2.1.1).keep (F := fun _ k => k = 27) (by repeat (first | exact sameX.rf | refine sameX.sI ?_ (by first | rfl | exact Or.inl rfl | exact Or.inr rfl | trivial | decide | omega | simp) _ | refine sameX.sA ?_ (by first | rfl | exact Or.inl rfl | exact Or.inr rfl | trivial | decide | omega | simp) _ _ | refine sameX.sL ?_ (by first | rfl | exact Or.inl rfl | exact Or.inr rfl | trivial | decide | omega | simp) _ | refine sameX.sP ?_ (by first | rfl | exact Or.inl rfl | exact Or.inr rfl | trivial | decide | omega | simp) _ | refine sameX.sB ?_ (by first | rfl | exact Or.inl rfl | exact Or.inr rfl | trivial | decide | omega | simp) _ _)) ⟨by omega, by omega⟩
          obtain ⟨τ6, e6, w6, s6⟩ := stopW (slot := 26) (by decide) (fun σ => mI σ 0 26 + 1) hg132 w5
          unfold fX6_readClerk_106
          rw [must_bad m3.2.2, bd_s, show (2 : Int32) = nI 2 from rfl, nI_add, gd_in (show 3 * iK D.1 + 2 < 12 by omega) (by decide), clampN (by omega), stp_s]
          refine ⟨σ3, τ6, e6, t13, (s13.tr s4).tr (sameX.tr (by repeat (first | exact sameX.rf | refine sameX.sI ?_ (by first | rfl | exact Or.inl rfl | exact Or.inr rfl | trivial | decide | omega | simp) _ | refine sameX.sA ?_ (by first | rfl | exact Or.inl rfl | exact Or.inr rfl | trivial | decide | omega | simp) _ _ | refine sameX.sL ?_ (by first | rfl | exact Or.inl rfl | exact Or.inr rfl | trivial | decide | omega | simp) _ | refine sameX.sP ?_ (by first | rfl | exact Or.inl rfl | exact Or.inr rfl | trivial | decide | omega | simp) _ | refine sameX.sB ?_ (by first | rfl | exact Or.inl rfl | exact Or.inr rfl | trivial | decide | omega | simp) _ _)) s6), Or.inr ⟨?_, _, c3.2.1, w6, by have := sk_le hb3.2.1; omega⟩⟩
          by_cases hk3 : kdX X (skX X (nxX X (nxX X (nxX X b)))) = 1
          · rw [if_pos hk3, (fits_k2 (kdX_1 hk3).2 hP2.2.2 (c3.2.2.2 hk3) v1).2 (fun w => hP3 ⟨hk3, w⟩), bd_s, if_pos rfl]
          · rw [if_neg hk3]
      · obtain ⟨y, e3⟩ := ri_bad m2 (b1 := 27) (n1 := 12) (lo := 0) (hi := 10) (x2 := nI (3 * iK D.1 + 1)) hP2 (by decide) (by decide)
        have e3 : fX6_readInto τ2 0 0 27 12 (nI (3 * iK D.1 + 1)) 0 10 = _ := e3
        rw [e3, bd2_s, sel5 (fun x => fX6_readClerk_106 0 (sI τ2 0 23 1) (nI (3 * iK D.1)) (mI (sI τ2 0 23 1) 0 22) x)]
        obtain ⟨τ4, e4, w4, s4⟩ := M_106w hK (wr1 m2.2.1.1) (mI (sI τ2 0 23 1) 0 22) (if mI (sI τ2 0 23 1) 0 21 = 2 ∧ ((y = 10 ∧ mI (sI τ2 0 23 1) 0 22 = 10) ∨ (¬ y = 10 ∧ ¬ (10 : Int32) ≤ mI (sI τ2 0 23 1) 0 22 ∧ ¬ mI (sI τ2 0 23 1) 0 22 = y)) then 1 else 0)
        refine ⟨σ2, τ4, e4, t12, s12.tr (sameX.tr (by repeat (first | exact sameX.rf | refine sameX.sI ?_ (by first | rfl | exact Or.inl rfl | exact Or.inr rfl | trivial | decide | omega | simp) _ | refine sameX.sA ?_ (by first | rfl | exact Or.inl rfl | exact Or.inr rfl | trivial | decide | omega | simp) _ _ | refine sameX.sL ?_ (by first | rfl | exact Or.inl rfl | exact Or.inr rfl | trivial | decide | omega | simp) _ | refine sameX.sP ?_ (by first | rfl | exact Or.inl rfl | exact Or.inr rfl | trivial | decide | omega | simp) _ | refine sameX.sB ?_ (by first | rfl | exact Or.inl rfl | exact Or.inr rfl | trivial | decide | omega | simp) _ _)) s4), Or.inr ⟨?_, _, c2.2.1, w4, by have := sk_le hb2.2.1; omega⟩⟩
        by_cases hk1 : kdX X (skX X (nxX X (nxX X b))) = 1
        · rw [if_pos hk1, fits_k1 (kdX_1 hk1).2 (c2.2.2.2 hk1), bd_s, if_neg (fun w => hP2 ⟨hk1, Nat.zero_le _, w⟩), if_pos rfl]
        · rw [if_neg hk1]
    · obtain ⟨y, e2⟩ := ri_bad m1 (b1 := 27) (n1 := 12) (lo := 0) (hi := 1023) (x2 := nI (3 * iK D.1)) hP (by decide) (by decide)
      have e2 : fX6_readInto τ1 0 0 27 12 (nI (3 * iK D.1)) 0 1023 = _ := e2
      have w1 : WRx (sI τ1 0 23 1) (skX X (nxX X b)) := wr1 m1.2.1.1
      obtain ⟨y3, e3⟩ := ri_w w1.1 27 12 (nI (3 * iK D.1 + 1)) 0 10
      rw [e2, bd2_s, e3, bd2_s, sel5 (fun x => fX6_readClerk_106 0 (sI (sI τ1 0 23 1) 0 23 1) (nI (3 * iK D.1)) (mI (sI (sI τ1 0 23 1) 0 23 1) 0 22) x)]
      obtain ⟨τ4, e4, w4, s4⟩ := M_106w hK (wr1 w1.2) (mI (sI (sI τ1 0 23 1) 0 23 1) 0 22) (if mI (sI (sI τ1 0 23 1) 0 23 1) 0 21 = 2 ∧ ((y3 = 10 ∧ mI (sI (sI τ1 0 23 1) 0 23 1) 0 22 = 10) ∨ (¬ y3 = 10 ∧ ¬ (10 : Int32) ≤ mI (sI (sI τ1 0 23 1) 0 23 1) 0 22 ∧ ¬ mI (sI (sI τ1 0 23 1) 0 23 1) 0 22 = y3)) then 1 else 0)
      refine ⟨σ1, τ4, e4, FLc_i t1, (FLw_i s1).tr (sameX.tr (by repeat (first | exact sameX.rf | refine sameX.sI ?_ (by first | rfl | exact Or.inl rfl | exact Or.inr rfl | trivial | decide | omega | simp) _ | refine sameX.sA ?_ (by first | rfl | exact Or.inl rfl | exact Or.inr rfl | trivial | decide | omega | simp) _ _ | refine sameX.sL ?_ (by first | rfl | exact Or.inl rfl | exact Or.inr rfl | trivial | decide | omega | simp) _ | refine sameX.sP ?_ (by first | rfl | exact Or.inl rfl | exact Or.inr rfl | trivial | decide | omega | simp) _ | refine sameX.sB ?_ (by first | rfl | exact Or.inl rfl | exact Or.inr rfl | trivial | decide | omega | simp) _ _)) s4), Or.inr ⟨?_, _, c1.2.1, w4, by have := sk_le hb1.2.1; omega⟩⟩
      by_cases hk1 : kdX X (skX X (nxX X b)) = 1
      · exact absurd ⟨hk1, Nat.zero_le _, (kdX_1 hk1).2⟩ hP
      · rw [if_neg hk1]
