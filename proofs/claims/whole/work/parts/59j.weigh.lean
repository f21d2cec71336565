/-! what each set of travellers in one row comes to -/
def btw (w t : Nat) : Bool := decide (w / 2 ^ t % 2 = 1)
theorem btw_bs_k : ∀ w : Fin 64, bs6 (btw w.val) = w.val := by decide +kernel
theorem btw_bs {w : Nat} (h : w < 64) : bs6 (btw w) = w := btw_bs_k ⟨w, h⟩
theorem btw_lt {w T t : Nat} (hw : w < 2 ^ T) (h : btw w t = true) : t < T := by
  rcases Nat.lt_or_ge t T with q | q
  · exact q
  · exfalso
    have h1 : 2 ^ T ≤ 2 ^ t := Nat.pow_le_pow_right (by decide) q
    have h2 : w / 2 ^ t = 0 := Nat.div_eq_of_lt (by omega)
    have h3 := of_decide_eq_true h
    rw [h2] at h3
    exact absurd h3 (by decide)
theorem bs_btw_k : ∀ (b0 b1 b2 b3 b4 b5 : Bool) (t : Fin 6), btw (bs6 (bf b0 b1 b2 b3 b4 b5)) t.val = bf b0 b1 b2 b3 b4 b5 t.val := by decide +kernel
theorem bs_btw {Mk : Nat → Bool} (h : ∀ t, Mk t = true → t < 6) : btw (bs6 Mk) = Mk := funext fun t => by
  by_cases ht : t < 6
  · rw [bs6_f, bs_btw_k _ _ _ _ _ _ ⟨t, ht⟩, bf_at Mk ht]
  · cases e : Mk t with
    | true => exact absurd (h t e) ht
    | false =>
      cases e2 : btw (bs6 Mk) t with
      | false => rfl
      | true => exact absurd (btw_lt (T := 6) (bs6_lt Mk) e2) ht
theorem bs6_ltT_k : ∀ (T : Fin 7) (b0 b1 b2 b3 b4 b5 : Bool), (∀ t : Fin 6, T.val ≤ t.val → bf b0 b1 b2 b3 b4 b5 t.val = false) → bs6 (bf b0 b1 b2 b3 b4 b5) < 2 ^ T.val := by decide +kernel
theorem bs6_ltT {Mk : Nat → Bool} {T : Nat} (hT : T ≤ 6) (h : ∀ t, Mk t = true → t < T) : bs6 Mk < 2 ^ T := by
  rw [bs6_f]
  refine bs6_ltT_k ⟨T, by omega⟩ _ _ _ _ _ _ (fun t ht => ?_)
  rw [bf_at Mk t.isLt]
  cases e : Mk t.val
  · rfl
  · have := h t.val e
    have : T ≤ t.val := ht
    omega
theorem shlT_k : ∀ T : Fin 7, (1 : Int32) <<< (nI T.val &&& 31) = nI (2 ^ T.val) := by decide +kernel
theorem shlT {T : Nat} (h : T ≤ 6) : (1 : Int32) <<< (nI T &&& 31) = nI (2 ^ T) := shlT_k ⟨T, by omega⟩
theorem mxN {a b : Nat} (ha : a < 2147483648) (hb : b < 2147483648) : mxI (nI a) (nI b) = nI (max a b) := by
  unfold mxI
  rw [iteL ha hb]
  by_cases e : a < b
  · rw [if_pos e, Nat.max_eq_right (by omega)]
  · rw [if_neg e, Nat.max_eq_left (by omega)]
theorem negA (a b : Nat) : -nI a + -nI b = -nI (a + b) := by rw [← nI_add, Int32.neg_add, Int32.sub_eq_add_neg]
theorem negS (a : Nat) : -nI a - 1 = -nI (a + 1) := by rw [← negA, Int32.sub_eq_add_neg]; rfl
def psum (f : Nat → Nat) : Nat → Nat
  | 0 => 0
  | i + 1 => psum f i + f i
def pmax (f : Nat → Nat) : Nat → Nat
  | 0 => 0
  | i + 1 => max (pmax f i) (f i)
theorem psum_le {f : Nat → Nat} {c : Nat} : ∀ {i : Nat}, (∀ t, t < i → f t ≤ c) → psum f i ≤ i * c
  | 0, _ => Nat.zero_le _
  | i + 1, h => by
    have h1 := psum_le (f := f) (c := c) (i := i) (fun t ht => h t (by omega))
    have h2 := h i (by omega)
    show psum f i + f i ≤ (i + 1) * c
    rw [Nat.succ_mul]; omega
theorem pmax_le {f : Nat → Nat} {c : Nat} : ∀ {i : Nat}, (∀ t, t < i → f t ≤ c) → pmax f i ≤ c
  | 0, _ => Nat.zero_le _
  | i + 1, h => Nat.max_le.mpr ⟨pmax_le (fun t ht => h t (by omega)), h i (by omega)⟩
theorem psum3 {f g h k : Nat → Nat} : ∀ {i : Nat}, (∀ t, t < i → f t + g t + h t = k t) → psum f i + psum g i + psum h i = psum k i
  | 0, _ => rfl
  | i + 1, e => by
    have h1 := psum3 (f := f) (g := g) (h := h) (k := k) (i := i) (fun t ht => e t (by omega))
    have h2 := e i (by omega)
    show psum f i + f i + (psum g i + g i) + (psum h i + h i) = psum k i + k i
    omega
theorem pmax3 {f g h k : Nat → Nat} : ∀ {i : Nat}, (∀ t, t < i → max (max (f t) (g t)) (h t) = k t) → max (max (pmax f i) (pmax g i)) (pmax h i) = pmax k i
  | 0, _ => rfl
  | i + 1, e => by
    have h1 := pmax3 (f := f) (g := g) (h := h) (k := k) (i := i) (fun t ht => e t (by omega))
    have h2 := e i (by omega)
    show max (max (max (pmax f i) (f i)) (max (pmax g i) (g i))) (max (pmax h i) (h i)) = max (pmax k i) (k i)
    omega
/-- all sail by day 100 -/
theorem sl_le {I : IV} (ok : IOK I) {Mk : Nat → Bool} (hMk : ∀ t, Mk t = true → t < iT I) (t : Nat) : ∀ d, (preT I Mk d).2.2.2 t ≤ 100
  | 0 => Nat.zero_le _
  | d + 1 => by
    have ih := sl_le ok hMk t d
    have hH := ok.1
    have hB := ok.2.2.1
    obtain ⟨h1, h2, h3, h4⟩ := preT_ok ok hMk d
    rw [preT_s]
    have hv := arr_v (I := I) (Mk := Mk) (d := d) (x := preT I Mk d)
    have key : (arrS I Mk d (preT I Mk d)).1 t = true → d < 100 := by
      unfold arrS
      cases ea : anyB (arrB I Mk d) with
      | false =>
        rw [if_neg (by decide)]
        intro ht
        have := h4 t ht
        obtain ⟨-, b2, -⟩ := bF_spec ok ((preT I Mk d).2.1 + iH I)
        omega
      | true =>
        intro _
        by_cases hn : ∃ t, t < 6 ∧ arrB I Mk d t = true
        · obtain ⟨t0, -, e0⟩ := hn
          have e0 := (Bool.and_eq_true _ _).mp e0
          have := (ok.2.2.2.2.2.1 t0 (hMk t0 e0.1)).1
          have := of_decide_eq_true e0.2
          omega
        · have : anyB (arrB I Mk d) = false := any_n (fun t ht => by
            cases e : arrB I Mk d t
            · rfl
            · exact absurd ⟨t, ht, e⟩ hn)
          rw [this] at ea; exact absurd ea (by decide)
    rw [← hv] at ih
    generalize arrS I Mk d (preT I Mk d) = y at key ih
    unfold sailS vinS
    show (if y.2.1 + iH I ≤ d + 1 ∧ (d + 1) % iB I = 0 then _ else _ : RV).2.2.2 t ≤ 100
    by_cases e : y.2.1 + iH I ≤ d + 1 ∧ (d + 1) % iB I = 0
    · rw [if_pos e]
      show (if y.1 t = true then d + 1 else y.2.2.2 t) ≤ 100
      by_cases e2 : y.1 t = true
      · rw [if_pos e2]; have := key e2; omega
      · rw [if_neg e2]; exact ih
    · rw [if_neg e]; exact ih
theorem sd_le {I : IV} (ok : IOK I) {Mk : Nat → Bool} (hMk : ∀ t, Mk t = true → t < iT I) (t : Nat) : sdT I Mk t ≤ 100 := sl_le ok hMk t 200
def gSo (I : IV) (Mk : Nat → Bool) (t : Nat) : Nat := if Mk t = true then sdT I Mk t else 0
theorem gSo_le {I : IV} {Mk : Nat → Bool} {t c : Nat} (h : sdT I Mk t ≤ c) : gSo I Mk t ≤ c := by
  unfold gSo
  split
  · exact h
  · exact Nat.zero_le _
def gMo (I : IV) (n : Nat) (Mk : Nat → Bool) (t : Nat) : Nat := if Mk t = true ∧ sdT I Mk t ≤ n then 1 else 0
def mdI (md : Option Nat) : Int32 := match md with
  | none => -9
  | some n => nI n
def lW (md : Option Nat) (I : IV) (Mk : Nat → Bool) (i : Nat) : Nat := match md with
  | none => pmax (gSo I Mk) i
  | some _ => 0
def sW (md : Option Nat) (I : IV) (Mk : Nat → Bool) (i : Nat) : Int32 := match md with
  | none => nI (psum (gSo I Mk) i)
  | some n => -nI (psum (gMo I n Mk) i)
theorem C_w42 {q q2 : Nat} {A : AS} (ok : AOK A) {md : Option Nat} (hmd : ∀ n, md = some n → n ≤ 200) {w : Nat} (hw : w < 64) (hwT : w < 2 ^ iT (aI A)) (k2 : Mem → Nat → Int32 → Int32 → Option Mem) : ∀ (r i n : Nat) (σ : Mem), i + r = iT (aI A) → r < n → CSq σ q q2 A → (∀ t, btw w t = true → mA σ 6 0 t = nI (sdT (aI A) (btw w) t)) → mA σ 6 2 w = nI (lW md (aI A) (btw w) i) → mA σ 6 3 w = sW md (aI A) (btw w) i → ∃ σ', fX3_weigh_42 k2 6 n σ q (mdI md) (nI w) (nI i) = k2 σ' q (mdI md) (nI (w + 1)) ∧ CSq σ' q q2 A ∧ mA σ' 6 2 w = nI (lW md (aI A) (btw w) (iT (aI A))) ∧ mA σ' 6 3 w = sW md (aI A) (btw w) (iT (aI A)) ∧ ∀ w', w' ≠ w → mA σ' 6 2 w' = mA σ 6 2 w' ∧ mA σ' 6 3 w' = mA σ 6 3 w' := by
  have hT := ok.1.2.2.2.1
  have hsd : ∀ t, sdT (aI A) (btw w) t ≤ 100 := sd_le ok.1 (fun t h => btw_lt hwT h)
  intro r
  induction r with
  | zero =>
    intro i n σ hi hn hC h0 h2 h3
    obtain ⟨n, rfl⟩ : ∃ m, n = m + 1 := ⟨n - 1, by omega⟩
    have ei : i = iT (aI A) := by omega
    subst ei
    refine ⟨σ, ?_, hC, h2, h3, fun _ _ => ⟨rfl, rfl⟩⟩
    rw [fX3_weigh_42.eq_2, hC.2.1.2.2.2.1, iteLE (by omega) (by omega), if_pos (Nat.le_refl _), nI_1]
  | succ r ih =>
    intro i n σ hi hn hC h0 h2 h3
    obtain ⟨n, rfl⟩ : ∃ m, n = m + 1 := ⟨n - 1, by omega⟩
    have hbit := bs6_bit (btw w) (show i < 6 by omega)
    rw [btw_bs hw] at hbit
    rw [fX3_weigh_42.eq_2, hC.2.1.2.2.2.1, iteLE (by omega) (by omega), if_neg (by omega), hbit, nI_1]
    cases eb : btw w i with
    | false =>
      rw [if_neg (show ¬ false = true by decide), if_pos rfl]
      refine ih (i + 1) n σ (by omega) (by omega) hC h0 ?_ ?_
      · rw [h2]
        cases md with
        | none =>
          show nI (pmax (gSo (aI A) (btw w)) i) = nI (max (pmax (gSo (aI A) (btw w)) i) (gSo (aI A) (btw w) i))
          have : gSo (aI A) (btw w) i = 0 := if_neg (by rw [eb]; decide)
          rw [this, Nat.max_eq_left (Nat.zero_le _)]
        | some n => rfl
      · rw [h3]
        cases md with
        | none =>
          show nI (psum (gSo (aI A) (btw w)) i) = nI (psum (gSo (aI A) (btw w)) i + gSo (aI A) (btw w) i)
          have : gSo (aI A) (btw w) i = 0 := if_neg (by rw [eb]; decide)
          rw [this, Nat.add_zero]
        | some n =>
          show -nI (psum (gMo (aI A) n (btw w)) i) = -nI (psum (gMo (aI A) n (btw w)) i + gMo (aI A) n (btw w) i)
          have : gMo (aI A) n (btw w) i = 0 := if_neg (fun z => by rw [eb] at z; exact absurd z.1 (by decide))
          rw [this, Nat.add_zero]
    | true =>
      rw [if_pos rfl, if_neg (show ¬ (1 : Int32) = 0 by decide)]
      have hi0 := h0 i eb
      have hsi := hsd i
      cases md with
      | none =>
        have gv : gSo (aI A) (btw w) i = sdT (aI A) (btw w) i := if_pos eb
        have hpm : pmax (gSo (aI A) (btw w)) i ≤ 100 := pmax_le (fun t _ => gSo_le (hsd t))
        have h2' : mA σ 6 2 w = nI (pmax (gSo (aI A) (btw w)) i) := h2
        have h3' : mA σ 6 3 w = nI (psum (gSo (aI A) (btw w)) i) := h3
        rw [if_pos (show mdI none = -9 from rfl)]
        simp only [gd_in (show w < 64 from hw) (show 64 < 2147483648 by decide), gd_in (show i < 6 by omega) (show 6 < 2147483648 by decide), clampN (show w < 2147483648 by omega), clampN (show i < 2147483648 by omega), stp_s]
        obtain ⟨σ', e1, c1, a2, a3, a4⟩ := ih (i + 1) n (sA (sA σ 6 2 w (mxI (mA σ 6 2 w) (mA σ 6 0 i))) 6 3 w (mA (sA σ 6 2 w (mxI (mA σ 6 2 w) (mA σ 6 0 i))) 6 3 w + mA (sA σ 6 2 w (mxI (mA σ 6 2 w) (mA σ 6 0 i))) 6 0 i)) (by omega) (by omega) (hC.scratch (by repeat (first | exact sameX.rf | refine sameX.sI ?_ (by first | rfl | exact Or.inl rfl | exact Or.inr rfl | trivial | decide | omega | simp) _ | refine sameX.sA ?_ (by first | rfl | exact Or.inl rfl | exact Or.inr rfl | trivial | decide | omega | simp) _ _ | refine sameX.sL ?_ (by first | rfl | exact Or.inl rfl | exact Or.inr rfl | trivial | decide | omega | simp) _ | refine sameX.sP ?_ (by first | rfl | exact Or.inl rfl | exact Or.inr rfl | trivial | decide | omega | simp) _ | refine sameX.sB ?_ (by first | rfl | exact Or.inl rfl | exact Or.inr rfl | trivial | decide | omega | simp) _ _)) ⟨rfl, rfl⟩) (fun t ht => by simp only [mI_sI, mI_sL, mI_sP, mI_sA, mI_sB, mL_sI, mL_sL, mL_sP, mL_sA, mL_sB, mP_sI, mP_sL, mP_sP, mP_sA, mP_sB, mA_sI, mA_sL, mA_sP, mA_sAg, mA_sB, mB_sI, mB_sL, mB_sP, mB_sA, mB_sBg, mE_sI, mE_sL, mE_sP, mE_sA, mE_sB, Nat.reduceEqDiff, Nat.reduceAdd, Nat.reduceMul, Nat.reduceSub, Nat.reduceLT, Nat.reduceLeDiff, Nat.reduceDiv, Nat.reduceMod, Nat.reduceBEq, and_true, true_and, and_false, false_and, and_self, ite_true, ite_false, if_true, if_false, reduceIte, eq_self, not_true, not_false_eq_true, Bool.true_and, Bool.and_true, Bool.false_and, Bool.and_false, Bool.or_true, Bool.true_or, Bool.or_false, Bool.false_or, Bool.not_true, Bool.not_false, reduceCtorEq, upd_e, Nat.add_eq_zero_iff, Nat.add_right_cancel_iff, Nat.add_left_cancel_iff]; exact h0 t ht) (by
            simp only [mI_sI, mI_sL, mI_sP, mI_sA, mI_sB, mL_sI, mL_sL, mL_sP, mL_sA, mL_sB, mP_sI, mP_sL, mP_sP, mP_sA, mP_sB, mA_sI, mA_sL, mA_sP, mA_sAg, mA_sB, mB_sI, mB_sL, mB_sP, mB_sA, mB_sBg, mE_sI, mE_sL, mE_sP, mE_sA, mE_sB, Nat.reduceEqDiff, Nat.reduceAdd, Nat.reduceMul, Nat.reduceSub, Nat.reduceLT, Nat.reduceLeDiff, Nat.reduceDiv, Nat.reduceMod, Nat.reduceBEq, and_true, true_and, and_false, false_and, and_self, ite_true, ite_false, if_true, if_false, reduceIte, eq_self, not_true, not_false_eq_true, Bool.true_and, Bool.and_true, Bool.false_and, Bool.and_false, Bool.or_true, Bool.true_or, Bool.or_false, Bool.false_or, Bool.not_true, Bool.not_false, reduceCtorEq, upd_e, Nat.add_eq_zero_iff, Nat.add_right_cancel_iff, Nat.add_left_cancel_iff]
            rw [h2', hi0, mxN (by omega) (by omega)]
            show _ = nI (max (pmax (gSo (aI A) (btw w)) i) (gSo (aI A) (btw w) i))
            rw [gv]) (by
            simp only [mI_sI, mI_sL, mI_sP, mI_sA, mI_sB, mL_sI, mL_sL, mL_sP, mL_sA, mL_sB, mP_sI, mP_sL, mP_sP, mP_sA, mP_sB, mA_sI, mA_sL, mA_sP, mA_sAg, mA_sB, mB_sI, mB_sL, mB_sP, mB_sA, mB_sBg, mE_sI, mE_sL, mE_sP, mE_sA, mE_sB, Nat.reduceEqDiff, Nat.reduceAdd, Nat.reduceMul, Nat.reduceSub, Nat.reduceLT, Nat.reduceLeDiff, Nat.reduceDiv, Nat.reduceMod, Nat.reduceBEq, and_true, true_and, and_false, false_and, and_self, ite_true, ite_false, if_true, if_false, reduceIte, eq_self, not_true, not_false_eq_true, Bool.true_and, Bool.and_true, Bool.false_and, Bool.and_false, Bool.or_true, Bool.true_or, Bool.or_false, Bool.false_or, Bool.not_true, Bool.not_false, reduceCtorEq, upd_e, Nat.add_eq_zero_iff, Nat.add_right_cancel_iff, Nat.add_left_cancel_iff]
            rw [h3', hi0, nI_add]
            show _ = nI (psum (gSo (aI A) (btw w)) i + gSo (aI A) (btw w) i)
            rw [gv])
        refine ⟨σ', e1, c1, a2, a3, fun w' hw' => ?_⟩
        obtain ⟨z1, z2⟩ := a4 w' hw'
        rw [z1, z2]
        simp only [mI_sI, mI_sL, mI_sP, mI_sA, mI_sB, mL_sI, mL_sL, mL_sP, mL_sA, mL_sB, mP_sI, mP_sL, mP_sP, mP_sA, mP_sB, mA_sI, mA_sL, mA_sP, mA_sAg, mA_sB, mB_sI, mB_sL, mB_sP, mB_sA, mB_sBg, mE_sI, mE_sL, mE_sP, mE_sA, mE_sB, Nat.reduceEqDiff, Nat.reduceAdd, Nat.reduceMul, Nat.reduceSub, Nat.reduceLT, Nat.reduceLeDiff, Nat.reduceDiv, Nat.reduceMod, Nat.reduceBEq, and_true, true_and, and_false, false_and, and_self, ite_true, ite_false, if_true, if_false, reduceIte, eq_self, not_true, not_false_eq_true, Bool.true_and, Bool.and_true, Bool.false_and, Bool.and_false, Bool.or_true, Bool.true_or, Bool.or_false, Bool.false_or, Bool.not_true, Bool.not_false, reduceCtorEq, upd_e, Nat.add_eq_zero_iff, Nat.add_right_cancel_iff, Nat.add_left_cancel_iff]
        rw [if_neg hw', if_neg hw']
        exact ⟨rfl, rfl⟩
      | some k =>
        have hk := hmd k rfl
        have h3' : mA σ 6 3 w = -nI (psum (gMo (aI A) k (btw w)) i) := h3
        have e9 : ¬ mdI (some k) = -9 := neg9 (show k < 2147483648 by omega)
        rw [if_neg e9, gd_in (show i < 6 by omega) (by decide), clampN (show i < 2147483648 by omega), hi0]
        show ∃ σ', (if nI k < nI (sdT (aI A) (btw w) i) then _ else _) = _ ∧ _
        rw [iteL (by omega) (by omega)]
        by_cases ek : k < sdT (aI A) (btw w) i
        · rw [if_pos ek]
          have gv : gMo (aI A) k (btw w) i = 0 := if_neg (fun z => by omega)
          refine ih (i + 1) n σ (by omega) (by omega) hC h0 h2 ?_
          rw [h3']
          show _ = -nI (psum (gMo (aI A) k (btw w)) i + gMo (aI A) k (btw w) i)
          rw [gv, Nat.add_zero]
        · rw [if_neg ek]
          have gv : gMo (aI A) k (btw w) i = 1 := if_pos ⟨eb, by omega⟩
          rw [gd_in hw (by decide), gd_in hw (by decide), clampN (show w < 2147483648 by omega), stp_s]
          obtain ⟨σ', e1, c1, a2, a3, a4⟩ := ih (i + 1) n (sA σ 6 3 w (mA σ 6 3 w - 1)) (by omega) (by omega) (hC.scratch (by repeat (first | exact sameX.rf | refine sameX.sI ?_ (by first | rfl | exact Or.inl rfl | exact Or.inr rfl | trivial | decide | omega | simp) _ | refine sameX.sA ?_ (by first | rfl | exact Or.inl rfl | exact Or.inr rfl | trivial | decide | omega | simp) _ _ | refine sameX.sL ?_ (by first | rfl | exact Or.inl rfl | exact Or.inr rfl | trivial | decide | omega | simp) _ | refine sameX.sP ?_ (by first | rfl | exact Or.inl rfl | exact Or.inr rfl | trivial | decide | omega | simp) _ | refine sameX.sB ?_ (by first | rfl | exact Or.inl rfl | exact Or.inr rfl | trivial | decide | omega | simp) _ _)) ⟨rfl, rfl⟩) (fun t ht => by simp only [mI_sI, mI_sL, mI_sP, mI_sA, mI_sB, mL_sI, mL_sL, mL_sP, mL_sA, mL_sB, mP_sI, mP_sL, mP_sP, mP_sA, mP_sB, mA_sI, mA_sL, mA_sP, mA_sAg, mA_sB, mB_sI, mB_sL, mB_sP, mB_sA, mB_sBg, mE_sI, mE_sL, mE_sP, mE_sA, mE_sB, Nat.reduceEqDiff, Nat.reduceAdd, Nat.reduceMul, Nat.reduceSub, Nat.reduceLT, Nat.reduceLeDiff, Nat.reduceDiv, Nat.reduceMod, Nat.reduceBEq, and_true, true_and, and_false, false_and, and_self, ite_true, ite_false, if_true, if_false, reduceIte, eq_self, not_true, not_false_eq_true, Bool.true_and, Bool.and_true, Bool.false_and, Bool.and_false, Bool.or_true, Bool.true_or, Bool.or_false, Bool.false_or, Bool.not_true, Bool.not_false, reduceCtorEq, upd_e, Nat.add_eq_zero_iff, Nat.add_right_cancel_iff, Nat.add_left_cancel_iff]; exact h0 t ht) (by simp only [mI_sI, mI_sL, mI_sP, mI_sA, mI_sB, mL_sI, mL_sL, mL_sP, mL_sA, mL_sB, mP_sI, mP_sL, mP_sP, mP_sA, mP_sB, mA_sI, mA_sL, mA_sP, mA_sAg, mA_sB, mB_sI, mB_sL, mB_sP, mB_sA, mB_sBg, mE_sI, mE_sL, mE_sP, mE_sA, mE_sB, Nat.reduceEqDiff, Nat.reduceAdd, Nat.reduceMul, Nat.reduceSub, Nat.reduceLT, Nat.reduceLeDiff, Nat.reduceDiv, Nat.reduceMod, Nat.reduceBEq, and_true, true_and, and_false, false_and, and_self, ite_true, ite_false, if_true, if_false, reduceIte, eq_self, not_true, not_false_eq_true, Bool.true_and, Bool.and_true, Bool.false_and, Bool.and_false, Bool.or_true, Bool.true_or, Bool.or_false, Bool.false_or, Bool.not_true, Bool.not_false, reduceCtorEq, upd_e, Nat.add_eq_zero_iff, Nat.add_right_cancel_iff, Nat.add_left_cancel_iff]; exact h2) (by
            simp only [mI_sI, mI_sL, mI_sP, mI_sA, mI_sB, mL_sI, mL_sL, mL_sP, mL_sA, mL_sB, mP_sI, mP_sL, mP_sP, mP_sA, mP_sB, mA_sI, mA_sL, mA_sP, mA_sAg, mA_sB, mB_sI, mB_sL, mB_sP, mB_sA, mB_sBg, mE_sI, mE_sL, mE_sP, mE_sA, mE_sB, Nat.reduceEqDiff, Nat.reduceAdd, Nat.reduceMul, Nat.reduceSub, Nat.reduceLT, Nat.reduceLeDiff, Nat.reduceDiv, Nat.reduceMod, Nat.reduceBEq, and_true, true_and, and_false, false_and, and_self, ite_true, ite_false, if_true, if_false, reduceIte, eq_self, not_true, not_false_eq_true, Bool.true_and, Bool.and_true, Bool.false_and, Bool.and_false, Bool.or_true, Bool.true_or, Bool.or_false, Bool.false_or, Bool.not_true, Bool.not_false, reduceCtorEq, upd_e, Nat.add_eq_zero_iff, Nat.add_right_cancel_iff, Nat.add_left_cancel_iff]
            rw [h3', negS]
            show _ = -nI (psum (gMo (aI A) k (btw w)) i + gMo (aI A) k (btw w) i)
            rw [gv])
          refine ⟨σ', e1, c1, a2, a3, fun w' hw' => ?_⟩
          obtain ⟨z1, z2⟩ := a4 w' hw'
          rw [z1, z2]
          simp only [mI_sI, mI_sL, mI_sP, mI_sA, mI_sB, mL_sI, mL_sL, mL_sP, mL_sA, mL_sB, mP_sI, mP_sL, mP_sP, mP_sA, mP_sB, mA_sI, mA_sL, mA_sP, mA_sAg, mA_sB, mB_sI, mB_sL, mB_sP, mB_sA, mB_sBg, mE_sI, mE_sL, mE_sP, mE_sA, mE_sB, Nat.reduceEqDiff, Nat.reduceAdd, Nat.reduceMul, Nat.reduceSub, Nat.reduceLT, Nat.reduceLeDiff, Nat.reduceDiv, Nat.reduceMod, Nat.reduceBEq, and_true, true_and, and_false, false_and, and_self, ite_true, ite_false, if_true, if_false, reduceIte, eq_self, not_true, not_false_eq_true, Bool.true_and, Bool.and_true, Bool.false_and, Bool.and_false, Bool.or_true, Bool.true_or, Bool.or_false, Bool.false_or, Bool.not_true, Bool.not_false, reduceCtorEq, upd_e, Nat.add_eq_zero_iff, Nat.add_right_cancel_iff, Nat.add_left_cancel_iff]
          rw [if_neg hw']
def WMm (σ : Mem) (md : Option Nat) (I : IV) (w : Nat) : Prop := mA σ 6 2 w = nI (lW md I (btw w) (iT I)) ∧ mA σ 6 3 w = sW md I (btw w) (iT I)
theorem C_weigh_l {q q2 : Nat} {A : AS} (ok : AOK A) {md : Option Nat} (hmd : ∀ n, md = some n → n ≤ 200) : ∀ (r w n : Nat) (σ : Mem), w + r = 2 ^ iT (aI A) → r < n → CSq σ q q2 A → (∀ w', w' < w → WMm σ md (aI A) w') → ∃ σ', fX3_weigh_2 6 n σ q (mdI md) (nI w) = some σ' ∧ CSq σ' q q2 A ∧ ∀ w', w' < 2 ^ iT (aI A) → WMm σ' md (aI A) w' := by
  have hT := ok.1.2.2.2.1
  have hp : 2 ^ iT (aI A) ≤ 2 ^ 6 := Nat.pow_le_pow_right (by decide) hT
  intro r
  induction r with
  | zero =>
    intro w n σ hw hn hC ha
    obtain ⟨n, rfl⟩ : ∃ m, n = m + 1 := ⟨n - 1, by omega⟩
    refine ⟨σ, ?_, hC, fun w' h => ha w' (by omega)⟩
    rw [fX3_weigh_2.eq_2, hC.2.1.2.2.2.1, shlT hT, iteLE (by omega) (by omega), if_pos (by omega)]
  | succ r ih =>
    intro w n σ hw hn hC ha
    obtain ⟨n, rfl⟩ : ∃ m, n = m + 1 := ⟨n - 1, by omega⟩
    have hwT : w < 2 ^ iT (aI A) := by omega
    have hw64 : w < 64 := by omega
    obtain ⟨σ1, e1, c1, a1, -, s1⟩ := C_run ok hC (Mk := btw w) (fun t h => btw_lt hwT h)
    rw [btw_bs hw64] at e1
    rw [fX3_weigh_2.eq_2, hC.2.1.2.2.2.1, shlT hT, iteLE (by omega) (by omega), if_neg (by omega), show (64 : Int32) = nI 64 from rfl, iteLE (by omega) (by omega), if_neg (by omega), e1, bd2_s, gd_in hw64 (by decide), clampN (by omega), stp_s, gd_in hw64 (by decide), stp_s]
    obtain ⟨σ2, e2, c2, b2, b3, b4⟩ := C_w42 (q := q) (q2 := q2) ok hmd hw64 hwT (fX3_weigh_2 6 n) (iT (aI A)) 0 FU (sA (sA σ1 6 2 w 0) 6 3 w 0) (by omega) (by show _ < 1000; omega) (c1.scratch (by repeat (first | exact sameX.rf | refine sameX.sI ?_ (by first | rfl | exact Or.inl rfl | exact Or.inr rfl | trivial | decide | omega | simp) _ | refine sameX.sA ?_ (by first | rfl | exact Or.inl rfl | exact Or.inr rfl | trivial | decide | omega | simp) _ _ | refine sameX.sL ?_ (by first | rfl | exact Or.inl rfl | exact Or.inr rfl | trivial | decide | omega | simp) _ | refine sameX.sP ?_ (by first | rfl | exact Or.inl rfl | exact Or.inr rfl | trivial | decide | omega | simp) _ | refine sameX.sB ?_ (by first | rfl | exact Or.inl rfl | exact Or.inr rfl | trivial | decide | omega | simp) _ _)) ⟨rfl, rfl⟩) (fun t ht => by simp only [mI_sI, mI_sL, mI_sP, mI_sA, mI_sB, mL_sI, mL_sL, mL_sP, mL_sA, mL_sB, mP_sI, mP_sL, mP_sP, mP_sA, mP_sB, mA_sI, mA_sL, mA_sP, mA_sAg, mA_sB, mB_sI, mB_sL, mB_sP, mB_sA, mB_sBg, mE_sI, mE_sL, mE_sP, mE_sA, mE_sB, Nat.reduceEqDiff, Nat.reduceAdd, Nat.reduceMul, Nat.reduceSub, Nat.reduceLT, Nat.reduceLeDiff, Nat.reduceDiv, Nat.reduceMod, Nat.reduceBEq, and_true, true_and, and_false, false_and, and_self, ite_true, ite_false, if_true, if_false, reduceIte, eq_self, not_true, not_false_eq_true, Bool.true_and, Bool.and_true, Bool.false_and, Bool.and_false, Bool.or_true, Bool.true_or, Bool.or_false, Bool.false_or, Bool.not_true, Bool.not_false, reduceCtorEq, upd_e, Nat.add_eq_zero_iff, Nat.add_right_cancel_iff, Nat.add_left_cancel_iff]; exact a1 t ht) (by
      simp only [mI_sI, mI_sL, mI_sP, mI_sA, mI_sB, mL_sI, mL_sL, mL_sP, mL_sA, mL_sB, mP_sI, mP_sL, mP_sP, mP_sA, mP_sB, mA_sI, mA_sL, mA_sP, mA_sAg, mA_sB, mB_sI, mB_sL, mB_sP, mB_sA, mB_sBg, mE_sI, mE_sL, mE_sP, mE_sA, mE_sB, Nat.reduceEqDiff, Nat.reduceAdd, Nat.reduceMul, Nat.reduceSub, Nat.reduceLT, Nat.reduceLeDiff, Nat.reduceDiv, Nat.reduceMod, Nat.reduceBEq, and_true, true_and, and_false, false_and, and_self, ite_true, ite_false, if_true, if_false, reduceIte, eq_self, not_true, not_false_eq_true, Bool.true_and, Bool.and_true, Bool.false_and, Bool.and_false, Bool.or_true, Bool.true_or, Bool.or_false, Bool.false_or, Bool.not_true, Bool.not_false, reduceCtorEq, upd_e, Nat.add_eq_zero_iff, Nat.add_right_cancel_iff, Nat.add_left_cancel_iff]
      cases md <;> rfl) (by
      simp only [mI_sI, mI_sL, mI_sP, mI_sA, mI_sB, mL_sI, mL_sL, mL_sP, mL_sA, mL_sB, mP_sI, mP_sL, mP_sP, mP_sA, mP_sB, mA_sI, mA_sL, mA_sP, mA_sAg, mA_sB, mB_sI, mB_sL, mB_sP, mB_sA, mB_sBg, mE_sI, mE_sL, mE_sP, mE_sA, mE_sB, Nat.reduceEqDiff, Nat.reduceAdd, Nat.reduceMul, Nat.reduceSub, Nat.reduceLT, Nat.reduceLeDiff, Nat.reduceDiv, Nat.reduceMod, Nat.reduceBEq, and_true, true_and, and_false, false_and, and_self, ite_true, ite_false, if_true, if_false, reduceIte, eq_self, not_true, not_false_eq_true, Bool.true_and, Bool.and_true, Bool.false_and, Bool.and_false, Bool.or_true, Bool.true_or, Bool.or_false, Bool.false_or, Bool.not_true, Bool.not_false, reduceCtorEq, upd_e, Nat.add_eq_zero_iff, Nat.add_right_cancel_iff, Nat.add_left_cancel_iff]
      cases md
      · rfl
      · exact (by decide : (0 : Int32) = -nI 0))
    have e2 : fX3_weigh_42 (fX3_weigh_2 6 n) 6 FU (sA (sA σ1 6 2 w 0) 6 3 w 0) q (mdI md) (nI w) 0 = _ := e2
    rw [e2]
    refine ih (w + 1) n σ2 (by omega) (by omega) c2 (fun w' hw' => ?_)
    by_cases e : w' = w
    · rw [e]; exact ⟨b2, b3⟩
    · obtain ⟨z1, z2⟩ := b4 w' e
      obtain ⟨y1, y2⟩ := ha w' (by omega)
      refine ⟨?_, ?_⟩
      · rw [z1, ← y1]
        simp only [mI_sI, mI_sL, mI_sP, mI_sA, mI_sB, mL_sI, mL_sL, mL_sP, mL_sA, mL_sB, mP_sI, mP_sL, mP_sP, mP_sA, mP_sB, mA_sI, mA_sL, mA_sP, mA_sAg, mA_sB, mB_sI, mB_sL, mB_sP, mB_sA, mB_sBg, mE_sI, mE_sL, mE_sP, mE_sA, mE_sB, Nat.reduceEqDiff, Nat.reduceAdd, Nat.reduceMul, Nat.reduceSub, Nat.reduceLT, Nat.reduceLeDiff, Nat.reduceDiv, Nat.reduceMod, Nat.reduceBEq, and_true, true_and, and_false, false_and, and_self, ite_true, ite_false, if_true, if_false, reduceIte, eq_self, not_true, not_false_eq_true, Bool.true_and, Bool.and_true, Bool.false_and, Bool.and_false, Bool.or_true, Bool.true_or, Bool.or_false, Bool.false_or, Bool.not_true, Bool.not_false, reduceCtorEq, upd_e, Nat.add_eq_zero_iff, Nat.add_right_cancel_iff, Nat.add_left_cancel_iff]
        rw [if_neg e, (s1 6 2 (by omega)).2.2.2.1]
      · rw [z2, ← y2]
        simp only [mI_sI, mI_sL, mI_sP, mI_sA, mI_sB, mL_sI, mL_sL, mL_sP, mL_sA, mL_sB, mP_sI, mP_sL, mP_sP, mP_sA, mP_sB, mA_sI, mA_sL, mA_sP, mA_sAg, mA_sB, mB_sI, mB_sL, mB_sP, mB_sA, mB_sBg, mE_sI, mE_sL, mE_sP, mE_sA, mE_sB, Nat.reduceEqDiff, Nat.reduceAdd, Nat.reduceMul, Nat.reduceSub, Nat.reduceLT, Nat.reduceLeDiff, Nat.reduceDiv, Nat.reduceMod, Nat.reduceBEq, and_true, true_and, and_false, false_and, and_self, ite_true, ite_false, if_true, if_false, reduceIte, eq_self, not_true, not_false_eq_true, Bool.true_and, Bool.and_true, Bool.false_and, Bool.and_false, Bool.or_true, Bool.true_or, Bool.or_false, Bool.false_or, Bool.not_true, Bool.not_false, reduceCtorEq, upd_e, Nat.add_eq_zero_iff, Nat.add_right_cancel_iff, Nat.add_left_cancel_iff]
        rw [if_neg e, (s1 6 3 (by omega)).2.2.2.1]
theorem C_weigh {σ : Mem} {q q2 : Nat} {A : AS} (ok : AOK A) {md : Option Nat} (hmd : ∀ n, md = some n → n ≤ 200) (hC : CSq σ q q2 A) : ∃ σ', fX3_weigh σ 6 q (mdI md) = some σ' ∧ CSq σ' q q2 A ∧ ∀ w', w' < 2 ^ iT (aI A) → WMm σ' md (aI A) w' := by
  have hT := ok.1.2.2.2.1
  have hp : 2 ^ iT (aI A) ≤ 2 ^ 6 := Nat.pow_le_pow_right (by decide) hT
  exact C_weigh_l ok hmd (2 ^ iT (aI A)) 0 FU σ (by omega) (by show _ < 1000; omega) hC (fun w' h => absurd h (Nat.not_lt_zero w'))
