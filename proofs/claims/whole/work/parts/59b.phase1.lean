/-! phase 1 of a day: who sails -/
theorem GS.upd {τ τ' : Mem} {T i : Nat} {p : Nat → Nat} {L L' : Nat → Bool} {D D' : Nat → Nat} {Z Z' : Nat → Bool} {Sl Sl' : Nat → Nat} (h : GS τ T p L D Z Sl) (ho : ∀ t, t ≠ i → mA τ' 0 31 t = mA τ 0 31 t ∧ mA τ' 0 32 t = mA τ 0 32 t ∧ mA τ' 0 33 t = mA τ 0 33 t) (hl : ∀ t, t ≠ i → L' t = L t ∧ D' t = D t ∧ Z' t = Z t ∧ Sl' t = Sl t) (hi : mA τ' 0 31 i = (if L' i = true then nI (p i) else -9) ∧ (L' i = true → mA τ' 0 32 i = nI (D' i)) ∧ mA τ' 0 33 i = (if Z' i = true then nI (Sl' i) else -9)) : GS τ' T p L' D' Z' Sl' := fun t ht => by
  by_cases e : t = i
  · rw [e]; exact hi
  · obtain ⟨o1, o2, o3⟩ := ho t e
    obtain ⟨l1, l2, l3, l4⟩ := hl t e
    rw [o1, o2, o3, l1, l2, l3, l4]
    exact h t ht
def sailB (I : IV) (L : Nat → Bool) (D : Nat → Nat) (d t : Nat) : Bool := L t && decide (iH I ≤ D t + (if d = 0 then 0 else 1)) && decide (d % iB I = 0)
def tL (I : IV) (L : Nat → Bool) (D : Nat → Nat) (d i t : Nat) : Bool := if t < i then L t && !sailB I L D d t else L t
def tD (D : Nat → Nat) (d i t : Nat) : Nat := if t < i then D t + (if d = 0 then 0 else 1) else D t
def tZ (I : IV) (L : Nat → Bool) (D : Nat → Nat) (Z : Nat → Bool) (d i t : Nat) : Bool := if t < i then Z t || sailB I L D d t else Z t
def tS (I : IV) (L : Nat → Bool) (D : Nat → Nat) (Sl : Nat → Nat) (d i t : Nat) : Nat := if t < i ∧ sailB I L D d t = true then d else Sl t
theorem tt_ne {I : IV} {L : Nat → Bool} {D : Nat → Nat} {Z : Nat → Bool} {Sl : Nat → Nat} {d i t : Nat} (h : t ≠ i) : tL I L D d (i + 1) t = tL I L D d i t ∧ tD D d (i + 1) t = tD D d i t ∧ tZ I L D Z d (i + 1) t = tZ I L D Z d i t ∧ tS I L D Sl d (i + 1) t = tS I L D Sl d i t := by
  unfold tL tD tZ tS
  by_cases e : t < i
  · have e' : t < i + 1 := by omega
    simp only [e, e', if_true, true_and, and_self]
  · have e' : ¬ t < i + 1 := by omega
    simp only [e, e', if_false, false_and, and_self]
def nsB (T : Nat) (Z : Nat → Bool) (t : Nat) : Bool := decide (t < T) && !Z t
theorem M_g53 {A : AS} (ok : AOK A) {p : Nat → Nat} (hp : ∀ t, t < iT (aI A) → p t < 3) {L : Nat → Bool} {D : Nat → Nat} {Z : Nat → Bool} {Sl : Nat → Nat} (hD : ∀ t, t < iT (aI A) → D t ≤ 300) (hZL : ∀ t, t < iT (aI A) → L t = true → Z t = false) {d : Nat} (hd : d ≤ 300) (K46 : Mem → Int32 → Int32 → Int32 → Option (Int32 × Mem)) (x2 : Int32) : ∀ (r i n : Nat) (τ : Mem), i + r = iT (aI A) → r < n → IMo τ (aI A) → GS τ (iT (aI A)) p (tL (aI A) L D d i) (tD D d i) (tZ (aI A) L D Z d i) (tS (aI A) L D Sl d i) → ∃ τ', fX6_goes_53 K46 0 n τ (nI (ct6 (nsB (iT (aI A)) (tZ (aI A) L D Z d i)))) x2 (nI d) (nI i) = fX6_goes_156 K46 0 FU τ' (nI (ct6 (nsB (iT (aI A)) (tZ (aI A) L D Z d (iT (aI A)))))) x2 (nI d) 0 ∧ GS τ' (iT (aI A)) p (tL (aI A) L D d (iT (aI A))) (tD D d (iT (aI A))) (tZ (aI A) L D Z d (iT (aI A))) (tS (aI A) L D Sl d (iT (aI A))) ∧ sameX (fun _ k => k = 31 ∨ k = 32 ∨ k = 33) τ τ' := by
  have hT := ok.1.2.2.2.1
  have hH := ok.1.1
  intro r
  induction r with
  | zero =>
    intro i n τ hi hn hI hG
    obtain ⟨n, rfl⟩ : ∃ m, n = m + 1 := ⟨n - 1, by omega⟩
    have ei : i = iT (aI A) := by omega
    subst ei
    exact ⟨τ, by rw [fX6_goes_53.eq_2, hI.2.2.2.1, iteLE (by omega) (by omega), if_pos (Nat.le_refl _)], hG, sameX.rf⟩
  | succ r ih =>
    intro i n τ hi hn hI hG
    obtain ⟨n, rfl⟩ : ∃ m, n = m + 1 := ⟨n - 1, by omega⟩
    have hiT : i < iT (aI A) := by omega
    obtain ⟨g1, g2, g3⟩ := hG i hiT
    have eL : tL (aI A) L D d i i = L i := if_neg (by omega)
    have eD : tD D d i i = D i := if_neg (by omega)
    have eZ : tZ (aI A) L D Z d i i = Z i := if_neg (by omega)
    have eS : tS (aI A) L D Sl d i i = Sl i := if_neg (fun q => by omega)
    have fL : tL (aI A) L D d (i + 1) i = (L i && !sailB (aI A) L D d i) := if_pos (by omega)
    have fD : tD D d (i + 1) i = D i + (if d = 0 then 0 else 1) := if_pos (by omega)
    have fZ : tZ (aI A) L D Z d (i + 1) i = (Z i || sailB (aI A) L D d i) := if_pos (by omega)
    rw [eL] at g1 g2
    rw [eD] at g2
    rw [eZ, eS] at g3
    have hkeep : ∀ v, IMo (sA τ 0 32 i v) (aI A) := fun v => hI.keep (F := fun _ k => k = 32) (by repeat (first | exact sameX.rf | refine sameX.sI ?_ (by first | rfl | exact Or.inl rfl | exact Or.inr rfl | trivial | decide | omega | simp) _ | refine sameX.sA ?_ (by first | rfl | exact Or.inl rfl | exact Or.inr rfl | trivial | decide | omega | simp) _ _ | refine sameX.sL ?_ (by first | rfl | exact Or.inl rfl | exact Or.inr rfl | trivial | decide | omega | simp) _ | refine sameX.sP ?_ (by first | rfl | exact Or.inl rfl | exact Or.inr rfl | trivial | decide | omega | simp) _ | refine sameX.sB ?_ (by first | rfl | exact Or.inl rfl | exact Or.inr rfl | trivial | decide | omega | simp) _ _)) (fun k hk => by omega)
    -- when none sails
    have stay : ∀ (v : Int32), sailB (aI A) L D d i = false → (L i = true → v = nI (D i + (if d = 0 then 0 else 1))) → ∃ τ', fX6_goes_53 K46 0 n (sA τ 0 32 i v) (nI (ct6 (nsB (iT (aI A)) (tZ (aI A) L D Z d i)))) x2 (nI d) (nI (i + 1)) = fX6_goes_156 K46 0 FU τ' (nI (ct6 (nsB (iT (aI A)) (tZ (aI A) L D Z d (iT (aI A)))))) x2 (nI d) 0 ∧ GS τ' (iT (aI A)) p (tL (aI A) L D d (iT (aI A))) (tD D d (iT (aI A))) (tZ (aI A) L D Z d (iT (aI A))) (tS (aI A) L D Sl d (iT (aI A))) ∧ sameX (fun _ k => k = 31 ∨ k = 32 ∨ k = 33) τ τ' := fun v hs hv => by
      have fS : tS (aI A) L D Sl d (i + 1) i = Sl i := if_neg (fun q => by rw [hs] at q; exact absurd q.2 (by decide))
      have eZZ : tZ (aI A) L D Z d (i + 1) = tZ (aI A) L D Z d i := funext fun t => by
        by_cases e : t = i
        · rw [e, fZ, eZ, hs, Bool.or_false]
        · exact (tt_ne (I := aI A) (L := L) (D := D) (Z := Z) (Sl := Sl) e).2.2.1
      have z := ih (i + 1) n (sA τ 0 32 i v) (by omega) (by omega) (hkeep v) (hG.upd (i := i) (fun t ht => ⟨by simp only [mI_sI, mI_sL, mI_sP, mI_sA, mI_sB, mL_sI, mL_sL, mL_sP, mL_sA, mL_sB, mP_sI, mP_sL, mP_sP, mP_sA, mP_sB, mA_sI, mA_sL, mA_sP, mA_sAg, mA_sB, mB_sI, mB_sL, mB_sP, mB_sA, mB_sBg, mE_sI, mE_sL, mE_sP, mE_sA, mE_sB, Nat.reduceEqDiff, Nat.reduceAdd, Nat.reduceMul, Nat.reduceSub, Nat.reduceLT, Nat.reduceLeDiff, Nat.reduceDiv, Nat.reduceMod, Nat.reduceBEq, and_true, true_and, and_false, false_and, and_self, ite_true, ite_false, if_true, if_false, reduceIte, eq_self, not_true, not_false_eq_true, Bool.true_and, Bool.and_true, Bool.false_and, Bool.and_false, Bool.or_true, Bool.true_or, Bool.or_false, Bool.false_or, Bool.not_true, Bool.not_false, reduceCtorEq, upd_e, Nat.add_eq_zero_iff, Nat.add_right_cancel_iff, Nat.add_left_cancel_iff], by simp only [mI_sI, mI_sL, mI_sP, mI_sA, mI_sB, mL_sI, mL_sL, mL_sP, mL_sA, mL_sB, mP_sI, mP_sL, mP_sP, mP_sA, mP_sB, mA_sI, mA_sL, mA_sP, mA_sAg, mA_sB, mB_sI, mB_sL, mB_sP, mB_sA, mB_sBg, mE_sI, mE_sL, mE_sP, mE_sA, mE_sB, Nat.reduceEqDiff, Nat.reduceAdd, Nat.reduceMul, Nat.reduceSub, Nat.reduceLT, Nat.reduceLeDiff, Nat.reduceDiv, Nat.reduceMod, Nat.reduceBEq, and_true, true_and, and_false, false_and, and_self, ite_true, ite_false, if_true, if_false, reduceIte, eq_self, not_true, not_false_eq_true, Bool.true_and, Bool.and_true, Bool.false_and, Bool.and_false, Bool.or_true, Bool.true_or, Bool.or_false, Bool.false_or, Bool.not_true, Bool.not_false, reduceCtorEq, upd_e, Nat.add_eq_zero_iff, Nat.add_right_cancel_iff, Nat.add_left_cancel_iff]; rw [if_neg ht], by simp only [mI_sI, mI_sL, mI_sP, mI_sA, mI_sB, mL_sI, mL_sL, mL_sP, mL_sA, mL_sB, mP_sI, mP_sL, mP_sP, mP_sA, mP_sB, mA_sI, mA_sL, mA_sP, mA_sAg, mA_sB, mB_sI, mB_sL, mB_sP, mB_sA, mB_sBg, mE_sI, mE_sL, mE_sP, mE_sA, mE_sB, Nat.reduceEqDiff, Nat.reduceAdd, Nat.reduceMul, Nat.reduceSub, Nat.reduceLT, Nat.reduceLeDiff, Nat.reduceDiv, Nat.reduceMod, Nat.reduceBEq, and_true, true_and, and_false, false_and, and_self, ite_true, ite_false, if_true, if_false, reduceIte, eq_self, not_true, not_false_eq_true, Bool.true_and, Bool.and_true, Bool.false_and, Bool.and_false, Bool.or_true, Bool.true_or, Bool.or_false, Bool.false_or, Bool.not_true, Bool.not_false, reduceCtorEq, upd_e, Nat.add_eq_zero_iff, Nat.add_right_cancel_iff, Nat.add_left_cancel_iff]⟩) (fun t ht => tt_ne ht) ⟨by
          simp only [mI_sI, mI_sL, mI_sP, mI_sA, mI_sB, mL_sI, mL_sL, mL_sP, mL_sA, mL_sB, mP_sI, mP_sL, mP_sP, mP_sA, mP_sB, mA_sI, mA_sL, mA_sP, mA_sAg, mA_sB, mB_sI, mB_sL, mB_sP, mB_sA, mB_sBg, mE_sI, mE_sL, mE_sP, mE_sA, mE_sB, Nat.reduceEqDiff, Nat.reduceAdd, Nat.reduceMul, Nat.reduceSub, Nat.reduceLT, Nat.reduceLeDiff, Nat.reduceDiv, Nat.reduceMod, Nat.reduceBEq, and_true, true_and, and_false, false_and, and_self, ite_true, ite_false, if_true, if_false, reduceIte, eq_self, not_true, not_false_eq_true, Bool.true_and, Bool.and_true, Bool.false_and, Bool.and_false, Bool.or_true, Bool.true_or, Bool.or_false, Bool.false_or, Bool.not_true, Bool.not_false, reduceCtorEq, upd_e, Nat.add_eq_zero_iff, Nat.add_right_cancel_iff, Nat.add_left_cancel_iff]
          rw [fL, hs, Bool.not_false, Bool.and_true]; exact g1, fun hl => by
          rw [fL, hs, Bool.not_false, Bool.and_true] at hl
          simp only [mI_sI, mI_sL, mI_sP, mI_sA, mI_sB, mL_sI, mL_sL, mL_sP, mL_sA, mL_sB, mP_sI, mP_sL, mP_sP, mP_sA, mP_sB, mA_sI, mA_sL, mA_sP, mA_sAg, mA_sB, mB_sI, mB_sL, mB_sP, mB_sA, mB_sBg, mE_sI, mE_sL, mE_sP, mE_sA, mE_sB, Nat.reduceEqDiff, Nat.reduceAdd, Nat.reduceMul, Nat.reduceSub, Nat.reduceLT, Nat.reduceLeDiff, Nat.reduceDiv, Nat.reduceMod, Nat.reduceBEq, and_true, true_and, and_false, false_and, and_self, ite_true, ite_false, if_true, if_false, reduceIte, eq_self, not_true, not_false_eq_true, Bool.true_and, Bool.and_true, Bool.false_and, Bool.and_false, Bool.or_true, Bool.true_or, Bool.or_false, Bool.false_or, Bool.not_true, Bool.not_false, reduceCtorEq, upd_e, Nat.add_eq_zero_iff, Nat.add_right_cancel_iff, Nat.add_left_cancel_iff]
          rw [fD]; exact hv hl, by
          simp only [mI_sI, mI_sL, mI_sP, mI_sA, mI_sB, mL_sI, mL_sL, mL_sP, mL_sA, mL_sB, mP_sI, mP_sL, mP_sP, mP_sA, mP_sB, mA_sI, mA_sL, mA_sP, mA_sAg, mA_sB, mB_sI, mB_sL, mB_sP, mB_sA, mB_sBg, mE_sI, mE_sL, mE_sP, mE_sA, mE_sB, Nat.reduceEqDiff, Nat.reduceAdd, Nat.reduceMul, Nat.reduceSub, Nat.reduceLT, Nat.reduceLeDiff, Nat.reduceDiv, Nat.reduceMod, Nat.reduceBEq, and_true, true_and, and_false, false_and, and_self, ite_true, ite_false, if_true, if_false, reduceIte, eq_self, not_true, not_false_eq_true, Bool.true_and, Bool.and_true, Bool.false_and, Bool.and_false, Bool.or_true, Bool.true_or, Bool.or_false, Bool.false_or, Bool.not_true, Bool.not_false, reduceCtorEq, upd_e, Nat.add_eq_zero_iff, Nat.add_right_cancel_iff, Nat.add_left_cancel_iff]
          rw [fZ, hs, Bool.or_false, fS]; exact g3⟩)
      rw [eZZ] at z
      obtain ⟨τ', z1, z2, z3⟩ := z
      exact ⟨τ', z1, z2, sameX.tr (by repeat (first | exact sameX.rf | refine sameX.sI ?_ (by first | rfl | exact Or.inl rfl | exact Or.inr rfl | trivial | decide | omega | simp) _ | refine sameX.sA ?_ (by first | rfl | exact Or.inl rfl | exact Or.inr rfl | trivial | decide | omega | simp) _ _ | refine sameX.sL ?_ (by first | rfl | exact Or.inl rfl | exact Or.inr rfl | trivial | decide | omega | simp) _ | refine sameX.sP ?_ (by first | rfl | exact Or.inl rfl | exact Or.inr rfl | trivial | decide | omega | simp) _ | refine sameX.sB ?_ (by first | rfl | exact Or.inl rfl | exact Or.inr rfl | trivial | decide | omega | simp) _ _)) z3⟩
    rw [fX6_goes_53.eq_2, hI.2.2.2.1, iteLE (by omega) (by omega), if_neg (by omega), gd_in (show i < 6 by omega) (by decide), gd_in (show i < 6 by omega) (by decide), clampN (by omega)]
    cases el : L i with
    | false =>
      rw [el, if_neg (show ¬ false = true by decide)] at g1
      rw [if_pos g1]
      unfold fX6_goes_91
      have g1' : mA (sA τ 0 32 i (mA τ 0 32 i + 0)) 0 31 i = -9 := by simp only [mI_sI, mI_sL, mI_sP, mI_sA, mI_sB, mL_sI, mL_sL, mL_sP, mL_sA, mL_sB, mP_sI, mP_sL, mP_sP, mP_sA, mP_sB, mA_sI, mA_sL, mA_sP, mA_sAg, mA_sB, mB_sI, mB_sL, mB_sP, mB_sA, mB_sBg, mE_sI, mE_sL, mE_sP, mE_sA, mE_sB, Nat.reduceEqDiff, Nat.reduceAdd, Nat.reduceMul, Nat.reduceSub, Nat.reduceLT, Nat.reduceLeDiff, Nat.reduceDiv, Nat.reduceMod, Nat.reduceBEq, and_true, true_and, and_false, false_and, and_self, ite_true, ite_false, if_true, if_false, reduceIte, eq_self, not_true, not_false_eq_true, Bool.true_and, Bool.and_true, Bool.false_and, Bool.and_false, Bool.or_true, Bool.true_or, Bool.or_false, Bool.false_or, Bool.not_true, Bool.not_false, reduceCtorEq, upd_e, Nat.add_eq_zero_iff, Nat.add_right_cancel_iff, Nat.add_left_cancel_iff]; exact g1
      rw [gd_in (show i < 6 by omega) (by decide), clampN (by omega), stp_s, gd_in (show i < 6 by omega) (by decide), if_pos g1', nI_1]
      exact stay _ (by unfold sailB; rw [el]; rfl) (fun h => by rw [el] at h; exact absurd h (by decide))
    | true =>
      rw [el, if_pos rfl] at g1
      have g2 := g2 el
      have hpi := hp i hiT
      have hDi := hD i hiT
      have hne : ¬ mA τ 0 31 i = -9 := by rw [g1]; exact neg9 (by omega)
      have main : ∃ τ', fX6_goes_91 K46 (fX6_goes_53 K46 0 n) 0 τ (nI (ct6 (nsB (iT (aI A)) (tZ (aI A) L D Z d i)))) x2 (nI d) (nI i) (nI (if d = 0 then 0 else 1)) (mA τ 0 32 i) (nI i) = fX6_goes_156 K46 0 FU τ' (nI (ct6 (nsB (iT (aI A)) (tZ (aI A) L D Z d (iT (aI A)))))) x2 (nI d) 0 ∧ GS τ' (iT (aI A)) p (tL (aI A) L D d (iT (aI A))) (tD D d (iT (aI A))) (tZ (aI A) L D Z d (iT (aI A))) (tS (aI A) L D Sl d (iT (aI A))) ∧ sameX (fun _ k => k = 31 ∨ k = 32 ∨ k = 33) τ τ' := by
        generalize hv : D i + (if d = 0 then 0 else 1) = v at stay
        have hv3 : v ≤ 301 := by rw [← hv]; split <;> omega
        have k31 : ¬ mA (sA τ 0 32 i (nI v)) 0 31 i = -9 := by simp only [mI_sI, mI_sL, mI_sP, mI_sA, mI_sB, mL_sI, mL_sL, mL_sP, mL_sA, mL_sB, mP_sI, mP_sL, mP_sP, mP_sA, mP_sB, mA_sI, mA_sL, mA_sP, mA_sAg, mA_sB, mB_sI, mB_sL, mB_sP, mB_sA, mB_sBg, mE_sI, mE_sL, mE_sP, mE_sA, mE_sB, Nat.reduceEqDiff, Nat.reduceAdd, Nat.reduceMul, Nat.reduceSub, Nat.reduceLT, Nat.reduceLeDiff, Nat.reduceDiv, Nat.reduceMod, Nat.reduceBEq, and_true, true_and, and_false, false_and, and_self, ite_true, ite_false, if_true, if_false, reduceIte, eq_self, not_true, not_false_eq_true, Bool.true_and, Bool.and_true, Bool.false_and, Bool.and_false, Bool.or_true, Bool.true_or, Bool.or_false, Bool.false_or, Bool.not_true, Bool.not_false, reduceCtorEq, upd_e, Nat.add_eq_zero_iff, Nat.add_right_cancel_iff, Nat.add_left_cancel_iff]; exact hne
        have k32 : mA (sA τ 0 32 i (nI v)) 0 32 i = nI v := by simp only [mI_sI, mI_sL, mI_sP, mI_sA, mI_sB, mL_sI, mL_sL, mL_sP, mL_sA, mL_sB, mP_sI, mP_sL, mP_sP, mP_sA, mP_sB, mA_sI, mA_sL, mA_sP, mA_sAg, mA_sB, mB_sI, mB_sL, mB_sP, mB_sA, mB_sBg, mE_sI, mE_sL, mE_sP, mE_sA, mE_sB, Nat.reduceEqDiff, Nat.reduceAdd, Nat.reduceMul, Nat.reduceSub, Nat.reduceLT, Nat.reduceLeDiff, Nat.reduceDiv, Nat.reduceMod, Nat.reduceBEq, and_true, true_and, and_false, false_and, and_self, ite_true, ite_false, if_true, if_false, reduceIte, eq_self, not_true, not_false_eq_true, Bool.true_and, Bool.and_true, Bool.false_and, Bool.and_false, Bool.or_true, Bool.true_or, Bool.or_false, Bool.false_or, Bool.not_true, Bool.not_false, reduceCtorEq, upd_e, Nat.add_eq_zero_iff, Nat.add_right_cancel_iff, Nat.add_left_cancel_iff]
        unfold fX6_goes_91
        rw [g2, nI_add, hv, gd_in (show i < 6 by omega) (by decide), clampN (by omega), stp_s, gd_in (show i < 6 by omega) (by decide), if_neg k31, gd_in (show i < 6 by omega) (by decide), k32, (hkeep (nI v)).1, iteL (by omega) (by omega), M_boat (hkeep (nI v)) ok.1 (show d < 100000 by omega), bd_s, nI_1]
        by_cases e1 : v < iH (aI A)
        · rw [if_pos e1]
          exact stay (nI v) (by unfold sailB; rw [hv, decide_eq_false (by omega), Bool.and_false, Bool.false_and]) (fun _ => rfl)
        · rw [if_neg e1]
          by_cases e2 : d % iB (aI A) = 0
          · rw [if_pos e2, if_neg (show ¬ (1 : Int32) = 0 by decide), gd_in (show i < 6 by omega) (by decide), stp_s, gd_in (show i < 6 by omega) (by decide), stp_s]
            have hs : sailB (aI A) L D d i = true := by unfold sailB; rw [hv, el, decide_eq_true (show iH (aI A) ≤ v by omega), decide_eq_true e2]; rfl
            have fS : tS (aI A) L D Sl d (i + 1) i = d := if_pos ⟨by omega, hs⟩
            have hzi := hZL i hiT el
            have hdrop := ct6_drop (nsB (iT (aI A)) (tZ (aI A) L D Z d i)) (show i < 6 by omega) (by unfold nsB; rw [eZ, hzi, decide_eq_true hiT]; rfl)
            have hnew : ct6 (fun j => nsB (iT (aI A)) (tZ (aI A) L D Z d i) j && !decide (j = i)) = ct6 (nsB (iT (aI A)) (tZ (aI A) L D Z d (i + 1))) := ct6_c (fun t ht => by
              unfold nsB
              by_cases e : t = i
              · rw [e, fZ, hs, Bool.or_true, Bool.not_true, Bool.and_false, decide_eq_true rfl, Bool.not_true, Bool.and_false]
              · rw [(tt_ne (I := aI A) (L := L) (D := D) (Z := Z) (Sl := Sl) e).2.2.1, decide_eq_false e, Bool.not_false, Bool.and_true])
            rw [hdrop, pk_m1, hnew]
            obtain ⟨τ', z1, z2, z3⟩ := ih (i + 1) n (sA (sA (sA τ 0 32 i (nI v)) 0 33 i (nI d)) 0 31 i (-9)) (by omega) (by omega) (hI.keep (F := fun _ k => k = 31 ∨ k = 32 ∨ k = 33) (by repeat (first | exact sameX.rf | refine sameX.sI ?_ (by first | rfl | exact Or.inl rfl | exact Or.inr rfl | trivial | decide | omega | simp) _ | refine sameX.sA ?_ (by first | rfl | exact Or.inl rfl | exact Or.inr rfl | trivial | decide | omega | simp) _ _ | refine sameX.sL ?_ (by first | rfl | exact Or.inl rfl | exact Or.inr rfl | trivial | decide | omega | simp) _ | refine sameX.sP ?_ (by first | rfl | exact Or.inl rfl | exact Or.inr rfl | trivial | decide | omega | simp) _ | refine sameX.sB ?_ (by first | rfl | exact Or.inl rfl | exact Or.inr rfl | trivial | decide | omega | simp) _ _)) (fun k hk => by omega)) (hG.upd (i := i) (fun t ht => ⟨by simp only [mI_sI, mI_sL, mI_sP, mI_sA, mI_sB, mL_sI, mL_sL, mL_sP, mL_sA, mL_sB, mP_sI, mP_sL, mP_sP, mP_sA, mP_sB, mA_sI, mA_sL, mA_sP, mA_sAg, mA_sB, mB_sI, mB_sL, mB_sP, mB_sA, mB_sBg, mE_sI, mE_sL, mE_sP, mE_sA, mE_sB, Nat.reduceEqDiff, Nat.reduceAdd, Nat.reduceMul, Nat.reduceSub, Nat.reduceLT, Nat.reduceLeDiff, Nat.reduceDiv, Nat.reduceMod, Nat.reduceBEq, and_true, true_and, and_false, false_and, and_self, ite_true, ite_false, if_true, if_false, reduceIte, eq_self, not_true, not_false_eq_true, Bool.true_and, Bool.and_true, Bool.false_and, Bool.and_false, Bool.or_true, Bool.true_or, Bool.or_false, Bool.false_or, Bool.not_true, Bool.not_false, reduceCtorEq, upd_e, Nat.add_eq_zero_iff, Nat.add_right_cancel_iff, Nat.add_left_cancel_iff]; rw [if_neg ht], by simp only [mI_sI, mI_sL, mI_sP, mI_sA, mI_sB, mL_sI, mL_sL, mL_sP, mL_sA, mL_sB, mP_sI, mP_sL, mP_sP, mP_sA, mP_sB, mA_sI, mA_sL, mA_sP, mA_sAg, mA_sB, mB_sI, mB_sL, mB_sP, mB_sA, mB_sBg, mE_sI, mE_sL, mE_sP, mE_sA, mE_sB, Nat.reduceEqDiff, Nat.reduceAdd, Nat.reduceMul, Nat.reduceSub, Nat.reduceLT, Nat.reduceLeDiff, Nat.reduceDiv, Nat.reduceMod, Nat.reduceBEq, and_true, true_and, and_false, false_and, and_self, ite_true, ite_false, if_true, if_false, reduceIte, eq_self, not_true, not_false_eq_true, Bool.true_and, Bool.and_true, Bool.false_and, Bool.and_false, Bool.or_true, Bool.true_or, Bool.or_false, Bool.false_or, Bool.not_true, Bool.not_false, reduceCtorEq, upd_e, Nat.add_eq_zero_iff, Nat.add_right_cancel_iff, Nat.add_left_cancel_iff]; rw [if_neg ht], by simp only [mI_sI, mI_sL, mI_sP, mI_sA, mI_sB, mL_sI, mL_sL, mL_sP, mL_sA, mL_sB, mP_sI, mP_sL, mP_sP, mP_sA, mP_sB, mA_sI, mA_sL, mA_sP, mA_sAg, mA_sB, mB_sI, mB_sL, mB_sP, mB_sA, mB_sBg, mE_sI, mE_sL, mE_sP, mE_sA, mE_sB, Nat.reduceEqDiff, Nat.reduceAdd, Nat.reduceMul, Nat.reduceSub, Nat.reduceLT, Nat.reduceLeDiff, Nat.reduceDiv, Nat.reduceMod, Nat.reduceBEq, and_true, true_and, and_false, false_and, and_self, ite_true, ite_false, if_true, if_false, reduceIte, eq_self, not_true, not_false_eq_true, Bool.true_and, Bool.and_true, Bool.false_and, Bool.and_false, Bool.or_true, Bool.true_or, Bool.or_false, Bool.false_or, Bool.not_true, Bool.not_false, reduceCtorEq, upd_e, Nat.add_eq_zero_iff, Nat.add_right_cancel_iff, Nat.add_left_cancel_iff]; rw [if_neg ht]⟩) (fun t ht => tt_ne ht) ⟨by
                simp only [mI_sI, mI_sL, mI_sP, mI_sA, mI_sB, mL_sI, mL_sL, mL_sP, mL_sA, mL_sB, mP_sI, mP_sL, mP_sP, mP_sA, mP_sB, mA_sI, mA_sL, mA_sP, mA_sAg, mA_sB, mB_sI, mB_sL, mB_sP, mB_sA, mB_sBg, mE_sI, mE_sL, mE_sP, mE_sA, mE_sB, Nat.reduceEqDiff, Nat.reduceAdd, Nat.reduceMul, Nat.reduceSub, Nat.reduceLT, Nat.reduceLeDiff, Nat.reduceDiv, Nat.reduceMod, Nat.reduceBEq, and_true, true_and, and_false, false_and, and_self, ite_true, ite_false, if_true, if_false, reduceIte, eq_self, not_true, not_false_eq_true, Bool.true_and, Bool.and_true, Bool.false_and, Bool.and_false, Bool.or_true, Bool.true_or, Bool.or_false, Bool.false_or, Bool.not_true, Bool.not_false, reduceCtorEq, upd_e, Nat.add_eq_zero_iff, Nat.add_right_cancel_iff, Nat.add_left_cancel_iff]
                rw [fL, hs, Bool.not_true, Bool.and_false, if_neg (by decide)], fun hl => by
                rw [fL, hs, Bool.not_true, Bool.and_false] at hl; exact absurd hl (by decide), by
                simp only [mI_sI, mI_sL, mI_sP, mI_sA, mI_sB, mL_sI, mL_sL, mL_sP, mL_sA, mL_sB, mP_sI, mP_sL, mP_sP, mP_sA, mP_sB, mA_sI, mA_sL, mA_sP, mA_sAg, mA_sB, mB_sI, mB_sL, mB_sP, mB_sA, mB_sBg, mE_sI, mE_sL, mE_sP, mE_sA, mE_sB, Nat.reduceEqDiff, Nat.reduceAdd, Nat.reduceMul, Nat.reduceSub, Nat.reduceLT, Nat.reduceLeDiff, Nat.reduceDiv, Nat.reduceMod, Nat.reduceBEq, and_true, true_and, and_false, false_and, and_self, ite_true, ite_false, if_true, if_false, reduceIte, eq_self, not_true, not_false_eq_true, Bool.true_and, Bool.and_true, Bool.false_and, Bool.and_false, Bool.or_true, Bool.true_or, Bool.or_false, Bool.false_or, Bool.not_true, Bool.not_false, reduceCtorEq, upd_e, Nat.add_eq_zero_iff, Nat.add_right_cancel_iff, Nat.add_left_cancel_iff]
                rw [fZ, hs, Bool.or_true, if_pos rfl, fS]⟩)
            exact ⟨τ', z1, z2, sameX.tr (by repeat (first | exact sameX.rf | refine sameX.sI ?_ (by first | rfl | exact Or.inl rfl | exact Or.inr rfl | trivial | decide | omega | simp) _ | refine sameX.sA ?_ (by first | rfl | exact Or.inl rfl | exact Or.inr rfl | trivial | decide | omega | simp) _ _ | refine sameX.sL ?_ (by first | rfl | exact Or.inl rfl | exact Or.inr rfl | trivial | decide | omega | simp) _ | refine sameX.sP ?_ (by first | rfl | exact Or.inl rfl | exact Or.inr rfl | trivial | decide | omega | simp) _ | refine sameX.sB ?_ (by first | rfl | exact Or.inl rfl | exact Or.inr rfl | trivial | decide | omega | simp) _ _)) z3⟩
          · rw [if_neg e2, if_pos rfl]
            exact stay (nI v) (by unfold sailB; rw [decide_eq_false e2, Bool.and_false]) (fun _ => rfl)
      rw [if_neg hne]
      by_cases e0 : d = 0
      · rw [if_pos e0] at main
        rw [if_pos (show nI d = 0 by rw [e0]; rfl)]
        exact main
      · rw [if_neg e0] at main
        rw [if_neg (show ¬ nI d = 0 by rw [l0, eqN (by omega) (by omega)]; exact e0)]
        exact main
