/-! the class's run of a row -/
theorem C_letSail_l {S : Nat → Bool} {b : Nat} : ∀ (d i n : Nat) (σ : Mem), i + d = 6 → d < n → ∃ σ', fX3_letSail_2 6 n σ (nI (bs6 S)) (nI b) (nI i) = some σ' ∧ (∀ t, mA σ' 6 0 t = if i ≤ t ∧ t < 6 ∧ S t = true then nI b else mA σ 6 0 t) ∧ sameX (fun o k => o = 6 ∧ k = 0) σ σ' ∧ ∀ o k, mP σ' o k = mP σ o k := by
  intro d
  induction d with
  | zero =>
    intro i n σ hi hn
    obtain ⟨n, rfl⟩ : ∃ m, n = m + 1 := ⟨n - 1, by omega⟩
    refine ⟨σ, ?_, fun t => by rw [if_neg (by omega)], sameX.rf, fun _ _ => rfl⟩
    rw [fX3_letSail_2.eq_2, show (6 : Int32) = nI 6 from rfl, iteLE (by omega) (by omega), if_pos (by omega)]
  | succ d ih =>
    intro i n σ hi hn
    obtain ⟨n, rfl⟩ : ∃ m, n = m + 1 := ⟨n - 1, by omega⟩
    have hb := bs6_bit S (show i < 6 by omega)
    rw [fX3_letSail_2.eq_2, show (6 : Int32) = nI 6 from rfl, iteLE (by omega) (by omega), if_neg (by omega), hb, gd_in (by omega) (by decide), clampN (by omega), nI_1]
    cases e : S i with
    | false =>
      obtain ⟨σ', e1, a1, s1, p1⟩ := ih (i + 1) n σ (by omega) (by omega)
      refine ⟨σ', ?_, fun t => ?_, s1, p1⟩
      · rw [if_neg (show ¬ false = true by decide), if_pos rfl]; exact e1
      · rw [a1 t]
        by_cases et : t = i
        · subst et; rw [if_neg (by omega), if_neg (fun q => by rw [e] at q; exact absurd q.2.2 (by decide))]
        · by_cases e2 : i + 1 ≤ t ∧ t < 6 ∧ S t = true
          · rw [if_pos e2, if_pos ⟨by omega, e2.2⟩]
          · rw [if_neg e2, if_neg (fun q => e2 ⟨by omega, q.2⟩)]
    | true =>
      obtain ⟨σ', e1, a1, s1, p1⟩ := ih (i + 1) n (sA σ 6 0 i (nI b)) (by omega) (by omega)
      refine ⟨σ', ?_, fun t => ?_, sameX.tr (by repeat (first | exact sameX.rf | refine sameX.sI ?_ (by first | rfl | exact Or.inl rfl | exact Or.inr rfl | trivial | decide | omega | simp) _ | refine sameX.sA ?_ (by first | rfl | exact Or.inl rfl | exact Or.inr rfl | trivial | decide | omega | simp) _ _ | refine sameX.sL ?_ (by first | rfl | exact Or.inl rfl | exact Or.inr rfl | trivial | decide | omega | simp) _ | refine sameX.sP ?_ (by first | rfl | exact Or.inl rfl | exact Or.inr rfl | trivial | decide | omega | simp) _ | refine sameX.sB ?_ (by first | rfl | exact Or.inl rfl | exact Or.inr rfl | trivial | decide | omega | simp) _ _)) s1, fun o k => p1 o k⟩
      · rw [if_pos rfl, if_neg (show ¬ (1 : Int32) = 0 by decide)]; exact e1
      · rw [a1 t]
        simp only [mI_sI, mI_sL, mI_sP, mI_sA, mI_sB, mL_sI, mL_sL, mL_sP, mL_sA, mL_sB, mP_sI, mP_sL, mP_sP, mP_sA, mP_sB, mA_sI, mA_sL, mA_sP, mA_sAg, mA_sB, mB_sI, mB_sL, mB_sP, mB_sA, mB_sBg, mE_sI, mE_sL, mE_sP, mE_sA, mE_sB, Nat.reduceEqDiff, Nat.reduceAdd, Nat.reduceMul, Nat.reduceSub, Nat.reduceLT, Nat.reduceLeDiff, Nat.reduceDiv, Nat.reduceMod, Nat.reduceBEq, and_true, true_and, and_false, false_and, and_self, ite_true, ite_false, if_true, if_false, reduceIte, eq_self, not_true, not_false_eq_true, Bool.true_and, Bool.and_true, Bool.false_and, Bool.and_false, Bool.or_true, Bool.true_or, Bool.or_false, Bool.false_or, Bool.not_true, Bool.not_false, reduceCtorEq, upd_e, Nat.add_eq_zero_iff, Nat.add_right_cancel_iff, Nat.add_left_cancel_iff]
        by_cases et : t = i
        · subst et; rw [if_neg (by omega), if_pos rfl, if_pos ⟨Nat.le_refl _, by omega, e⟩]
        · rw [if_neg et]
          by_cases e2 : i + 1 ≤ t ∧ t < 6 ∧ S t = true
          · rw [if_pos e2, if_pos ⟨by omega, e2.2⟩]
          · rw [if_neg e2, if_neg (fun q => e2 ⟨by omega, q.2⟩)]
theorem C_letSail {σ : Mem} {q q2 : Nat} {A : AS} (hC : CSq σ q q2 A) (S : Nat → Bool) (b : Nat) : ∃ σ', fX3_letSail σ 6 (nI (bs6 S)) (nI b) = some σ' ∧ (∀ t, t < 6 → mA σ' 6 0 t = if S t = true then nI b else mA σ 6 0 t) ∧ sameX (fun o k => o = 6 ∧ k = 0) σ σ' ∧ CSq σ' q q2 A := by
  obtain ⟨σ', e1, a1, s1, p1⟩ := C_letSail_l (S := S) (b := b) 6 0 FU σ (by omega) (by decide)
  refine ⟨σ', e1, fun t ht => ?_, s1, hC.scratch (s1.mono (fun o k h => Or.inl h.1)) ⟨p1 0 11, p1 0 12⟩⟩
  rw [a1 t]
  by_cases e : S t = true
  · rw [if_pos ⟨Nat.zero_le t, ht, e⟩, if_pos e]
  · rw [if_neg (fun q => e q.2.2), if_neg e]
theorem C_run_l {q q2 : Nat} {A : AS} (ok : AOK A) {Mk : Nat → Bool} (hMk : ∀ t, Mk t = true → t < iT (aI A)) {od : Nat → Nat} (hod : ordOK (aI A) od) : ∀ (d i n : Nat) (σ : Mem) (S0 : Nat → Bool) (s0 s v : Nat) (sl : Nat → Nat), i + d = iT (aI A) → d < n → CSq σ q q2 A → (∀ j, j < iT (aI A) → mA σ q 7 j = nI (od j)) → preT (aI A) Mk s = (S0, s0, v, sl) → (∀ t, Mk t = true → ahead od i t = true → iC (aI A) t ≤ s) → (∀ j, i ≤ j → j < iT (aI A) → Mk (od j) = true → s ≤ iC (aI A) (od j)) → (s = 0 ∨ ∃ t, Mk t = true ∧ ahead od i t = true ∧ iC (aI A) t = s) → s ≤ 40 → (∀ t, Mk t = true → ahead od i t = true → (S0 t || (arrB (aI A) Mk s t && ahead od i t)) = false → mA σ 6 0 t = nI (sl t)) → ∃ σ', fX3_runRow_11 6 n σ q (nI (bs6 Mk)) (nI (bs6 (fun t => S0 t || (arrB (aI A) Mk s t && ahead od i t)))) (nI s) (nI v) (nI i) = some (nI (vT (aI A) Mk), σ') ∧ CSq σ' q q2 A ∧ (∀ t, Mk t = true → mA σ' 6 0 t = nI (sdT (aI A) Mk t)) ∧ (∀ t, t < 6 → Mk t = false → mA σ' 6 0 t = mA σ 6 0 t) ∧ sameX (fun o k => o = 6 ∧ k = 0) σ σ' := by
  have hT := ok.1.2.2.2.1
  have hH := ok.1.1
  have hB := ok.1.2.2.1
  have hMk6 : ∀ t, Mk t = true → t < 6 := fun t h => by have := hMk t h; omega
  have hSM : ∀ {S0 : Nat → Bool} {s0 s v : Nat} {sl : Nat → Nat} {b : Bool} {t : Nat}, preT (aI A) Mk s = (S0, s0, v, sl) → Mk t = false → ¬ (S0 t || (arrB (aI A) Mk s t && b)) = true := fun {S0 s0 s v sl b t} hpre hf h => by
    rcases (Bool.or_eq_true _ _).mp h with q | q
    · have := ((preT_ok ok.1 hMk s).1 t (by rw [hpre]; exact q)).1
      rw [hf] at this; exact absurd this (by decide)
    · have := ((Bool.and_eq_true _ _).mp ((Bool.and_eq_true _ _).mp q).1).1
      rw [hf] at this; exact absurd this (by decide)
  intro d
  induction d with
  | zero =>
    intro i n σ S0 s0 s v sl hi hn hC hro hpre h1 h2 h3 hs40 hmem
    obtain ⟨n, rfl⟩ : ∃ m, n = m + 1 := ⟨n - 1, by omega⟩
    have ei : i = iT (aI A) := by omega
    have hall : ∀ t, Mk t = true → ahead od i t = true := fun t h => by rw [ei]; exact ord_all hod t (hMk t h)
    have hfull := arr_full hMk6 hpre h3 (fun t h _ => hall t h)
    obtain ⟨b1, b2, b3⟩ := bF_spec ok.1 (s + iH (aI A))
    have hj := jump ok.1 hfull (199 - s) (fun e he1 he2 => any_n (fun t ht => by
      cases et : arrB (aI A) Mk e t
      · rfl
      · have e2 : (Mk t && decide (iC (aI A) t = e)) = true := et
        have e3 := (Bool.and_eq_true _ _).mp e2
        have := h1 t e3.1 (hall t e3.1)
        have := of_decide_eq_true e3.2
        omega))
    rw [show s + 1 + (199 - s) = 200 by omega] at hj
    unfold jmp at hj
    rw [if_pos (show bF (aI A) (s + iH (aI A)) ≤ 200 by omega)] at hj
    obtain ⟨σ', e1, a1, s1, c1⟩ := C_letSail hC (fun t => S0 t || (arrB (aI A) Mk s t && ahead od i t)) (bF (aI A) (s + iH (aI A)))
    refine ⟨σ', ?_, c1, fun t ht => ?_, fun t ht hf => by rw [a1 t ht, if_neg (hSM hpre hf)], s1⟩
    · rw [fX3_runRow_11.eq_2, hC.2.1.2.2.2.1, iteLE (by omega) (by omega), if_pos (by omega), hC.2.1.1, nI_add, C_bF hC.2.1 ok.1 (by omega), bd_s, e1, bd_s, vin_ok, bd_s, pk_sub (by omega), pk_mul, nI_add]
      unfold vT
      rw [hj]
    · unfold sdT
      rw [hj, a1 t (hMk6 t ht)]
      show _ = nI (if (S0 t || (arrB (aI A) Mk s t && ahead od i t)) = true then _ else _)
      by_cases e : (S0 t || (arrB (aI A) Mk s t && ahead od i t)) = true
      · rw [if_pos e, if_pos e]
      · rw [if_neg e, if_neg e]
        exact hmem t ht (hall t ht) ((Bool.not_eq_true _).mp e)
  | succ d ih =>
    intro i n σ S0 s0 s v sl hi hn hC hro hpre h1 h2 h3 hs40 hmem
    obtain ⟨n, rfl⟩ : ∃ m, n = m + 1 := ⟨n - 1, by omega⟩
    have hiT : i < iT (aI A) := by omega
    have hoi := hod.1 i hiT
    have hbit := bs6_bit Mk (show od i < 6 by omega)
    have hah : ∀ t, ahead od (i + 1) t = (ahead od i t || decide (od i = t)) := fun t => rfl
    rw [fX3_runRow_11.eq_2, hC.2.1.2.2.2.1, iteLE (by omega) (by omega), if_neg (by omega), gd_in (show i < 6 by omega) (by decide), clampN (by omega), hro i hiT, hbit]
    cases eM : Mk (od i) with
    | false =>
      rw [if_neg (show ¬ false = true by decide), if_pos rfl, nI_1]
      have hsame : ∀ t, Mk t = true → ahead od (i + 1) t = ahead od i t := fun t ht => by
        rw [hah t, decide_eq_false (fun e => by rw [e, ht] at eM; exact absurd eM (by decide)), Bool.or_false]
      have hS : (fun t => S0 t || (arrB (aI A) Mk s t && ahead od (i + 1) t)) = fun t => S0 t || (arrB (aI A) Mk s t && ahead od i t) := funext fun t => by
        cases e : Mk t
        · unfold arrB; rw [e, Bool.false_and, Bool.false_and, Bool.false_and]
        · rw [hsame t e]
      have z := ih (i + 1) n σ S0 s0 s v sl (by omega) (by omega) hC hro hpre (fun t ht ha => h1 t ht (by rw [← hsame t ht]; exact ha)) (fun j hj1 hj2 hj3 => h2 j (by omega) hj2 hj3) (h3.imp id (fun ⟨t, t1, t2, t3⟩ => ⟨t, t1, by rw [hsame t t1]; exact t2, t3⟩)) hs40 (fun t ht ha hz => hmem t ht (by rw [← hsame t ht]; exact ha) (by rw [← hsame t ht]; exact hz))
      rw [hS] at z
      exact z
    | true =>
      have hc40 := (ok.1.2.2.2.2.2.1 (od i) hoi).1
      have hcs := h2 i (Nat.le_refl i) hiT eM
      obtain ⟨b1, b2, b3⟩ := bF_spec ok.1 (s + iH (aI A))
      have hC5 := hC.2.1.2.2.2.2.2.1 (od i) hoi
      rw [if_pos rfl, if_neg (show ¬ (1 : Int32) = 0 by decide), hC.2.1.1, nI_add, C_bF hC.2.1 ok.1 (by omega), bd_s, gd_in (show od i < 6 by omega) (by decide), vin_ok, bd_s, clampN (by omega), hC5, iteL (by omega) (by omega)]
      have hahi : ahead od (i + 1) (od i) = true := by rw [hah, decide_eq_true rfl, Bool.or_true]
      have hnew1 : ∀ t, Mk t = true → ahead od (i + 1) t = true → iC (aI A) t ≤ iC (aI A) (od i) := fun t ht ha => by
        rw [hah] at ha
        rcases (Bool.or_eq_true _ _).mp ha with q | q
        · have := h1 t ht q; omega
        · rw [of_decide_eq_true q]; exact Nat.le_refl _
      have hnew2 : ∀ j, i + 1 ≤ j → j < iT (aI A) → Mk (od j) = true → iC (aI A) (od i) ≤ iC (aI A) (od j) := fun j hj1 hj2 _ => by
        have := hod.2 i j (by omega) hj2
        omega
      have hnew3 : iC (aI A) (od i) = 0 ∨ ∃ t, Mk t = true ∧ ahead od (i + 1) t = true ∧ iC (aI A) t = iC (aI A) (od i) := Or.inr ⟨od i, eM, hahi, rfl⟩
      by_cases ecs : iC (aI A) (od i) = s
      · have hlt : iC (aI A) (od i) < bF (aI A) (s + iH (aI A)) := by omega
        rw [if_pos hlt]
        unfold fX3_runRow_99 mnI
        rw [iteL (by omega) (by omega), if_pos hlt, pk_sub (by omega), pk_mul, nI_add, nI_1]
        have ev : v + (iC (aI A) (od i) - s) * vin (ct6 (fun t => S0 t || (arrB (aI A) Mk s t && ahead od i t))) = v := by rw [ecs, Nat.sub_self, Nat.zero_mul, Nat.add_zero]
        rw [ev]
        have eS : nI (bs6 (fun t => S0 t || (arrB (aI A) Mk s t && ahead od i t))) ||| ((1 : Int32) <<< (nI (od i) &&& 31)) = nI (bs6 (fun t => S0 t || (arrB (aI A) Mk (iC (aI A) (od i)) t && ahead od (i + 1) t))) := by
          refine (bs6_or _ (show od i < 6 by omega)).trans (congrArg nI (bs6_c (fun t ht => ?_)))
          rw [hah, ecs]
          by_cases et : od i = t
          · have : arrB (aI A) Mk s t = true := by unfold arrB; rw [← et, eM, decide_eq_true ecs]; rfl
            rw [this, decide_eq_true et, decide_eq_true et.symm, Bool.or_true, Bool.or_true, Bool.true_and, Bool.or_true]
          · rw [decide_eq_false et, decide_eq_false (fun q => et q.symm), Bool.or_false, Bool.or_false]
        rw [eS]
        refine ih (i + 1) n σ S0 s0 (iC (aI A) (od i)) v sl (by omega) (by omega) hC hro (by rw [ecs]; exact hpre) hnew1 hnew2 hnew3 hc40 (fun t ht ha hz => ?_)
        rw [hah] at ha
        by_cases et : od i = t
        · exfalso
          have : arrB (aI A) Mk (iC (aI A) (od i)) t = true := by unfold arrB; rw [← et, eM, decide_eq_true rfl]; rfl
          rw [this, hah, decide_eq_true et, Bool.or_true, Bool.true_and, Bool.or_true] at hz
          exact absurd hz (by decide)
        · rw [hah, decide_eq_false et, Bool.or_false, ecs] at hz
          rw [decide_eq_false et, Bool.or_false] at ha
          exact hmem t ht ha hz
      · have hgt : s < iC (aI A) (od i) := by omega
        have hall : ∀ t, Mk t = true → iC (aI A) t = s → ahead od i t = true := fun t ht hts => by
          obtain ⟨j, hj, ej⟩ := ahead_iff.mp (ord_all hod t (hMk t ht))
          refine ahead_iff.mpr ⟨j, ?_, ej⟩
          rcases Nat.lt_or_ge j i with q | q
          · exact q
          · exfalso
            by_cases eji : j = i
            · rw [eji] at ej; rw [ej, hts] at hgt; omega
            · have := hod.2 i j (by omega) hj
              rw [ej, hts] at this
              omega
        have hfull := arr_full hMk6 hpre h3 hall
        have hj := jump ok.1 hfull (iC (aI A) (od i) - (s + 1)) (fun e he1 he2 => any_n (fun t ht => by
          cases et : arrB (aI A) Mk e t
          · rfl
          · have e2 : (Mk t && decide (iC (aI A) t = e)) = true := et
            have e3 := (Bool.and_eq_true _ _).mp e2
            have e4 := of_decide_eq_true e3.2
            exfalso
            obtain ⟨j, hj, ej⟩ := ahead_iff.mp (ord_all hod t (hMk t e3.1))
            rcases Nat.lt_or_ge j i with q | q
            · have := h1 t e3.1 (ahead_iff.mpr ⟨j, q, ej⟩); omega
            · by_cases eji : j = i
              · rw [eji] at ej; rw [ej] at he2; omega
              · have := hod.2 i j (by omega) hj
                rw [ej] at this
                omega))
        rw [show s + 1 + (iC (aI A) (od i) - (s + 1)) = iC (aI A) (od i) by omega] at hj
        unfold jmp at hj
        have hnar : ∀ t, (arrB (aI A) Mk (iC (aI A) (od i)) t && ahead od (i + 1) t) = decide (t = od i) := fun t => by
          rw [hah]
          by_cases et : od i = t
          · have : arrB (aI A) Mk (iC (aI A) (od i)) t = true := by unfold arrB; rw [← et, eM, decide_eq_true rfl]; rfl
            rw [this, decide_eq_true et, decide_eq_true et.symm, Bool.or_true]; rfl
          · rw [decide_eq_false et, decide_eq_false (fun q => et q.symm), Bool.or_false]
            cases e1 : arrB (aI A) Mk (iC (aI A) (od i)) t
            · rfl
            · cases e2 : ahead od i t
              · rfl
              · exfalso
                have e3 := (Bool.and_eq_true _ _).mp e1
                have := h1 t e3.1 e2
                have := of_decide_eq_true e3.2
                omega
        by_cases hlt : iC (aI A) (od i) < bF (aI A) (s + iH (aI A))
        · rw [if_neg (by omega)] at hj
          rw [if_pos hlt]
          unfold fX3_runRow_99 mnI
          rw [iteL (by omega) (by omega), if_pos hlt, pk_sub (by omega), pk_mul, nI_add, nI_1]
          have eS : nI (bs6 (fun t => S0 t || (arrB (aI A) Mk s t && ahead od i t))) ||| ((1 : Int32) <<< (nI (od i) &&& 31)) = nI (bs6 (fun t => (S0 t || (arrB (aI A) Mk s t && ahead od i t)) || (arrB (aI A) Mk (iC (aI A) (od i)) t && ahead od (i + 1) t))) := by
            refine (bs6_or _ (show od i < 6 by omega)).trans (congrArg nI (bs6_c (fun t ht => ?_)))
            rw [hnar t]
          rw [eS]
          refine ih (i + 1) n σ _ s (iC (aI A) (od i)) _ sl (by omega) (by omega) hC hro hj hnew1 hnew2 hnew3 hc40 (fun t ht ha hz => ?_)
          rw [hnar t] at hz
          obtain ⟨z1, z2⟩ := Bool.or_eq_false_iff.mp hz
          rw [hah, decide_eq_false (fun q => (of_decide_eq_false z2) q.symm), Bool.or_false] at ha
          exact hmem t ht ha z1
        · rw [if_pos (by omega)] at hj
          rw [if_neg hlt]
          obtain ⟨σ1, e1, a1, s1, c1⟩ := C_letSail hC (fun t => S0 t || (arrB (aI A) Mk s t && ahead od i t)) (bF (aI A) (s + iH (aI A)))
          rw [e1, bd_s]
          have emn : mnI (nI (bF (aI A) (s + iH (aI A)))) (nI (iC (aI A) (od i))) = nI (bF (aI A) (s + iH (aI A))) := by
            unfold mnI
            rw [iteL (by omega) (by omega), if_neg hlt]
          unfold fX3_runRow_99
          rw [emn, pk_sub (by omega), pk_mul, nI_add, nI_1]
          have eS : (0 : Int32) ||| ((1 : Int32) <<< (nI (od i) &&& 31)) = nI (bs6 (fun t => (false || (arrB (aI A) Mk (iC (aI A) (od i)) t && ahead od (i + 1) t)))) := by
            rw [← bs6_0]
            refine (bs6_or _ (show od i < 6 by omega)).trans (congrArg nI (bs6_c (fun t ht => ?_)))
            rw [hnar t]
          rw [eS]
          have hq := hC.q
          obtain ⟨σ2, f1, f2, f3, f5, f4⟩ := ih (i + 1) n σ1 _ s (iC (aI A) (od i)) _ _ (by omega) (by omega) c1 (fun j hj => by rw [(s1 q 7 (by omega)).2.2.2.1]; exact hro j hj) hj hnew1 hnew2 hnew3 hc40 (fun t ht ha hz => by
            rw [hnar t, Bool.false_or] at hz
            rw [hah, decide_eq_false (fun q => (of_decide_eq_false hz) q.symm), Bool.or_false] at ha
            rw [a1 t (hMk6 t ht)]
            by_cases e : (S0 t || (arrB (aI A) Mk s t && ahead od i t)) = true
            · rw [if_pos e, if_pos e]
            · rw [if_neg e, if_neg e]
              exact hmem t ht ha ((Bool.not_eq_true _).mp e))
          exact ⟨σ2, f1, f2, f3, fun t ht hf => by rw [f5 t ht hf, a1 t ht, if_neg (hSM hpre hf)], s1.tr f4⟩
theorem C_run {σ : Mem} {q q2 : Nat} {A : AS} (ok : AOK A) (hC : CSq σ q q2 A) {Mk : Nat → Bool} (hMk : ∀ t, Mk t = true → t < iT (aI A)) : ∃ σ', fX3_runRow σ 6 q (nI (bs6 Mk)) = some (nI (vT (aI A) Mk), σ') ∧ CSq σ' q q2 A ∧ (∀ t, Mk t = true → mA σ' 6 0 t = nI (sdT (aI A) Mk t)) ∧ (∀ t, t < 6 → Mk t = false → mA σ' 6 0 t = mA σ 6 0 t) ∧ sameX (fun o k => o = 6 ∧ k = 0) σ σ' := by
  have hT := ok.1.2.2.2.1
  obtain ⟨od, hod, hro⟩ := hC.2.1.2.2.2.2.2.2.2.2.2.2
  obtain ⟨σ', e1, r⟩ := C_run_l ok hMk hod (iT (aI A)) 0 FU σ (fun _ => false) 0 0 0 (fun _ => 0) (by omega) (by show _ < 1000; omega) hC hro rfl (fun t _ h => absurd (show false = true from h) (by decide)) (fun j _ _ _ => Nat.zero_le _) (Or.inl rfl) (by decide) (fun t _ h => absurd (show false = true from h) (by decide))
  refine ⟨σ', ?_, r⟩
  have z : bs6 (fun t => false || (arrB (aI A) Mk 0 t && ahead od 0 t)) = 0 := (bs6_c (c := fun _ => false) (fun t _ => by
    show (false || (arrB (aI A) Mk 0 t && false)) = false
    rw [Bool.and_false]; rfl)).trans (by decide)
  rw [z] at e1
  exact e1
