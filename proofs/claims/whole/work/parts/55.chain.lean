/-! rows of clerks as numbers to the base K -/
def num (K : Nat) (s : Nat → Nat) : Nat → Nat
  | 0 => 0
  | m + 1 => num K s m * K + s m
theorem num_c {K : Nat} {s t : Nat → Nat} : ∀ {n : Nat}, (∀ i, i < n → s i = t i) → num K s n = num K t n
  | 0, _ => rfl
  | n + 1, h => by
    show num K s n * K + s n = num K t n * K + t n
    rw [num_c (fun i hi => h i (by omega)), h n (by omega)]
theorem num_lt {K : Nat} {s : Nat → Nat} : ∀ {n : Nat}, (∀ i, i < n → s i < K) → num K s n < K ^ n
  | 0, _ => Nat.one_pos
  | n + 1, h => by
    have ih := num_lt (K := K) (s := s) (n := n) (fun i hi => h i (by omega))
    have hn := h n (by omega)
    have := Nat.mul_le_mul_right K (show num K s n + 1 ≤ K ^ n from ih)
    rw [Nat.succ_mul] at this
    show num K s n * K + s n < K ^ (n + 1)
    rw [Nat.pow_succ]
    omega
theorem num_lex {K : Nat} {s t : Nat → Nat} {m : Nat} (ha : ∀ i, i < m → s i = t i) (hlt : s m < t m) : ∀ {d : Nat}, (∀ i, i < m + 1 + d → s i < K) → num K s (m + 1 + d) < num K t (m + 1 + d)
  | 0, _ => by
    show num K s m * K + s m < num K t m * K + t m
    rw [num_c ha]; omega
  | d + 1, h => by
    have ih := num_lex (K := K) ha hlt (d := d) (fun i hi => h i (by omega))
    have hd := h (m + 1 + d) (by omega)
    have := Nat.mul_le_mul_right K (show num K s (m + 1 + d) + 1 ≤ num K t (m + 1 + d) from ih)
    rw [Nat.succ_mul] at this
    show num K s (m + 1 + d) * K + s (m + 1 + d) < num K t (m + 1 + d) * K + t (m + 1 + d)
    omega
theorem num_div {K : Nat} {s : Nat → Nat} {n : Nat} (h : s n < K) : num K s (n + 1) / K = num K s n := by
  show (num K s n * K + s n) / K = num K s n
  rw [Nat.add_comm, Nat.add_mul_div_right _ _ (by omega), Nat.div_eq_of_lt h, Nat.zero_add]
theorem num_mod {K : Nat} {s : Nat → Nat} {n : Nat} (h : s n < K) : num K s (n + 1) % K = s n := by
  show (num K s n * K + s n) % K = s n
  rw [Nat.add_comm, Nat.add_mul_mod_self_right, Nat.mod_eq_of_lt h]
theorem num_inj {K : Nat} {s t : Nat → Nat} : ∀ {n : Nat}, (∀ i, i < n → s i < K) → (∀ i, i < n → t i < K) → num K s n = num K t n → ∀ i, i < n → s i = t i
  | 0, _, _, _ => fun i hi => absurd hi (Nat.not_lt_zero i)
  | n + 1, hs, ht, e => fun i hi => by
    have h1 := num_div (hs n (by omega)); have h2 := num_div (ht n (by omega))
    have h3 := num_mod (hs n (by omega)); have h4 := num_mod (ht n (by omega))
    rw [e] at h1 h3
    by_cases ei : i = n
    · rw [ei, ← h3, ← h4]
    · exact num_inj (fun i hi => hs i (by omega)) (fun i hi => ht i (by omega)) (h1.symm.trans h2) i (by omega)
theorem num_ex {K : Nat} : ∀ (n X : Nat), X < K ^ n → ∃ s : Nat → Nat, (∀ i, i < n → s i < K) ∧ num K s n = X
  | 0, X, h => ⟨fun _ => 0, fun i hi => absurd hi (Nat.not_lt_zero i), by have : X < 1 := h; show 0 = X; omega⟩
  | n + 1, X, h => by
    have hK : 0 < K := by
      rcases Nat.eq_zero_or_pos K with e | e
      · rw [e, Nat.pow_succ, Nat.mul_zero] at h; omega
      · exact e
    rw [Nat.pow_succ] at h
    obtain ⟨s, hs, e⟩ := num_ex n (X / K) (Nat.div_lt_of_lt_mul (by rw [Nat.mul_comm]; exact h))
    refine ⟨fun i => if i = n then X % K else s i, fun i hi => ?_, ?_⟩
    · show (if i = n then X % K else s i) < K
      split
      · exact Nat.mod_lt X hK
      · exact hs i (by omega)
    · show num K (fun i => if i = n then X % K else s i) n * K + (if n = n then X % K else s n) = X
      rw [if_pos rfl, num_c (t := s) (fun i hi => if_neg (by omega)), e]
      exact Nat.div_add_mod' X K
def ahead (s : Nat → Nat) : Nat → Nat → Bool
  | 0, _ => false
  | m + 1, c => ahead s m c || decide (s m = c)
theorem ahead_iff {s : Nat → Nat} {c : Nat} : ∀ {m : Nat}, ahead s m c = true ↔ ∃ i, i < m ∧ s i = c
  | 0 => ⟨fun h => absurd (show false = true from h) (by decide), fun ⟨i, hi, _⟩ => absurd hi (Nat.not_lt_zero i)⟩
  | m + 1 => by
    have ih := ahead_iff (s := s) (c := c) (m := m)
    show (ahead s m c || decide (s m = c)) = true ↔ _
    rw [Bool.or_eq_true, ih, decide_eq_true_eq]
    constructor
    · rintro (⟨i, hi, e⟩ | e)
      · exact ⟨i, by omega, e⟩
      · exact ⟨m, by omega, e⟩
    · rintro ⟨i, hi, e⟩
      by_cases ei : i = m
      · exact Or.inr (ei ▸ e)
      · exact Or.inl ⟨i, by omega, e⟩
theorem ahead_c {s t : Nat → Nat} {c m : Nat} (h : ∀ i, i < m → s i = t i) : ahead s m c = ahead t m c := by
  rw [Bool.eq_iff_iff, ahead_iff, ahead_iff]
  constructor
  · rintro ⟨i, hi, e⟩; exact ⟨i, hi, by rw [← h i hi]; exact e⟩
  · rintro ⟨i, hi, e⟩; exact ⟨i, hi, by rw [h i hi]; exact e⟩
def dis (s : Nat → Nat) : Nat → Bool
  | 0 => true
  | m + 1 => dis s m && !ahead s m (s m)
theorem dis_c {s t : Nat → Nat} : ∀ {n : Nat}, (∀ i, i < n → s i = t i) → dis s n = dis t n
  | 0, _ => rfl
  | n + 1, h => by
    show (dis s n && !ahead s n (s n)) = (dis t n && !ahead t n (t n))
    rw [dis_c (fun i hi => h i (by omega)), h n (by omega), ahead_c (fun i hi => h i (by omega))]
theorem dis_le {s : Nat → Nat} {m : Nat} : ∀ {d : Nat}, dis s (m + d) = true → dis s m = true
  | 0, h => h
  | d + 1, h => by
    have h : (dis s (m + d) && !ahead s (m + d) (s (m + d))) = true := h
    exact dis_le ((Bool.and_eq_true _ _).mp h).1
/-- the letter after the first m clerks of the row -/
def sm (I : IV) (w s : Nat → Nat) : Nat → Nat → Nat
  | 0, i => w i
  | m + 1, i => cpw I (s m) (sm I w s m i)
theorem sm_c {I : IV} {w s t : Nat → Nat} : ∀ {m : Nat}, (∀ i, i < m → s i = t i) → sm I w s m = sm I w t m
  | 0, _ => rfl
  | m + 1, h => funext fun i => by
    show cpw I (s m) (sm I w s m i) = cpw I (t m) (sm I w t m i)
    rw [sm_c (fun i hi => h i (by omega)), h m (by omega)]
theorem sm_le {I : IV} (ok : IOK I) {w s : Nat → Nat} {k : Nat} (hw : ∀ i, i < k → w i ≤ 10) : ∀ {m : Nat}, (∀ i, i < m → s i < iK I) → ∀ i, i < k → sm I w s m i ≤ 10
  | 0, _ => hw
  | m + 1, h => fun i hi => cpw_le ok (h m (by omega)) (sm_le ok hw (fun i hi => h i (by omega)) i hi)
def good (A : AS) (w : Nat → Nat) (k n : Nat) (s : Nat → Nat) : Prop := (∀ i, i < n → s i < iK (aI A)) ∧ dis s n = true ∧ sameL A (sm (aI A) w s n) k = true
theorem good_c {A : AS} {w : Nat → Nat} {k n : Nat} {s t : Nat → Nat} (h : ∀ i, i < n → s i = t i) (g : good A w k n s) : good A w k n t := by
  obtain ⟨g1, g2, g3⟩ := g
  exact ⟨fun i hi => by rw [← h i hi]; exact g1 i hi, by rw [← dis_c h]; exact g2, by rw [← sm_c h]; exact g3⟩
theorem C_ahead {σ : Mem} {s : Nat → Nat} {m c : Nat} (hm : m ≤ 4) (hc : c < 1000) (hs : ∀ i, i < m → s i < 1000) (hr : ∀ i, i < m → mA σ 0 11 i = nI (s i)) : ∀ (d i n : Nat), i + d = m → d < n → (∀ j, j < i → ¬ s j = c) → fX5_standsAhead_2 σ n 0 11 4 (nI m) (nI c) (nI i) = some (nI (b2n (ahead s m c))) := by
  intro d
  induction d with
  | zero =>
    intro i n hi hn hj
    obtain ⟨n, rfl⟩ : ∃ m, n = m + 1 := ⟨n - 1, by omega⟩
    have e : ahead s m c = false := by
      cases h : ahead s m c
      · rfl
      · obtain ⟨j, h1, h2⟩ := ahead_iff.mp h
        exact absurd h2 (hj j (by omega))
    rw [fX5_standsAhead_2.eq_2, iteLE (by omega) (by omega), if_pos (by omega), e]
    rfl
  | succ d ih =>
    intro i n hi hn hj
    obtain ⟨n, rfl⟩ : ∃ m, n = m + 1 := ⟨n - 1, by omega⟩
    have hsi := hs i (by omega)
    rw [fX5_standsAhead_2.eq_2, iteLE (by omega) (by omega), if_neg (by omega), ofN, iteLE (by omega) (by omega), if_neg (by omega), gd_in (by omega) (by decide), clampN (by omega), hr i (by omega), iteE (by omega) (by omega), nI_1]
    by_cases e : s i = c
    · rw [if_pos e, ahead_iff.mpr ⟨i, by omega, e⟩]
      rfl
    · rw [if_neg e]
      refine ih (i + 1) n (by omega) (by omega) (fun j h => ?_)
      by_cases ej : j = i
      · rw [ej]; exact e
      · exact hj j (by omega)
/-- what a search from a beginning of length m answers -/
def found (A : AS) (w : Nat → Nat) (k n m q q2 : Nat) (s : Nat → Nat) (x : Option (Int32 × Mem)) : Prop := ∃ (r : Bool) (σ' : Mem), x = some (nI (b2n r), σ') ∧ CSq σ' q q2 A ∧ (∀ i, i < m → mA σ' 0 11 i = nI (s i)) ∧ (r = true → ∃ s', (∀ i, i < m → s' i = s i) ∧ good A w k n s' ∧ (∀ i, i < n → mA σ' 0 11 i = nI (s' i)) ∧ ∀ s'', (∀ i, i < m → s'' i = s i) → good A w k n s'' → num (iK (aI A)) s' n ≤ num (iK (aI A)) s'' n) ∧ (r = false → ∀ s'', (∀ i, i < m → s'' i = s i) → ¬ good A w k n s'')
theorem C_28 {q q2 : Nat} {A : AS} (ok : AOK A) {k : Nat} (hk : k ≤ 5) {w : Nat → Nat} (hw : ∀ i, i < k → w i ≤ 10) {n m : Nat} (hn : n ≤ iK (aI A)) (hm : m < n) {fu : Nat} {s : Nat → Nat} (hs : ∀ i, i < m → s i < iK (aI A)) (hdis : dis s m = true)
    (ih : ∀ (s : Nat → Nat) (σ : Mem), CSq σ q q2 A → (∀ i, i < m + 1 → s i < iK (aI A)) → dis s (m + 1) = true → (∀ i, i < m + 1 → mA σ 0 11 i = nI (s i)) → found A w k n (m + 1) q q2 s (fX5_canMake fu σ q 0 11 4 (nI (enc (sm (aI A) w s (m + 1)) k)) (nI (enc (vW (aN A)) (vN (aN A)))) (nI (m + 1)) (nI n))) :
    ∀ (d c g : Nat) (σ : Mem), c + d = iK (aI A) → d < g → CSq σ q q2 A → (∀ i, i < m → mA σ 0 11 i = nI (s i)) → (∀ s'', (∀ i, i < m → s'' i = s i) → good A w k n s'' → c ≤ s'' m) → found A w k n m q q2 s (fX5_canMake_28 (fX5_canMake fu) g σ q 0 11 4 (nI (enc (sm (aI A) w s m) k)) (nI (enc (vW (aN A)) (vN (aN A)))) (nI m) (nI n) (nI c)) := by
  have hK := ok.1.2.2.2.2.1
  intro d
  induction d with
  | zero =>
    intro c g σ hc hg hC hr hmin
    obtain ⟨g, rfl⟩ : ∃ m, g = m + 1 := ⟨g - 1, by omega⟩
    refine ⟨false, σ, ?_, hC, hr, fun h => absurd h (by decide), fun _ s'' ha hgd => ?_⟩
    · rw [fX5_canMake_28.eq_2, hC.2.1.2.2.2.2.1, iteLE (by omega) (by omega), if_pos (by omega)]
      rfl
    · have h1 := hmin s'' ha hgd
      have h2 := hgd.1 m hm
      omega
  | succ d ih2 =>
    intro c g σ hc hg hC hr hmin
    obtain ⟨g, rfl⟩ : ∃ m, g = m + 1 := ⟨g - 1, by omega⟩
    have ea := C_ahead (σ := σ) (s := s) (m := m) (c := c) (by omega) (by omega) (fun i hi => by have := hs i hi; omega) hr m 0 FU (by omega) (by show _ < 1000; omega) (fun j hj => absurd hj (Nat.not_lt_zero j))
    have ea : fX5_standsAhead σ 0 11 4 (nI m) (nI c) = some (nI (b2n (ahead s m c))) := ea
    rw [fX5_canMake_28.eq_2, hC.2.1.2.2.2.2.1, iteLE (by omega) (by omega), if_neg (by omega), ea, bd_s, nI_1]
    cases eah : ahead s m c with
    | true =>
      rw [if_neg (show ¬ nI (b2n true) = 0 by decide), nI_1]
      refine ih2 (c + 1) g σ (by omega) (by omega) hC hr (fun s'' ha hgd => ?_)
      have h1 := hmin s'' ha hgd
      by_cases e : s'' m = c
      · exfalso
        have hd : dis s'' (m + 1) = true := dis_le (d := n - (m + 1)) (by rw [show m + 1 + (n - (m + 1)) = n by omega]; exact hgd.2.1)
        have hd : (dis s'' m && !ahead s'' m (s'' m)) = true := hd
        rw [e, ahead_c ha, eah, Bool.not_true, Bool.and_false] at hd
        exact absurd hd (by decide)
      · omega
    | false =>
      rw [if_pos (show nI (b2n false) = 0 from rfl), gd_in (by omega) (by decide), clampN (by omega), stp_s]
      have hC1 : CSq (sA σ 0 11 m (nI c)) q q2 A := hC.scratch (by repeat (first | exact sameX.rf | refine sameX.sI ?_ (by first | rfl | exact Or.inl rfl | exact Or.inr rfl | trivial | decide | omega | simp) _ | refine sameX.sA ?_ (by first | rfl | exact Or.inl rfl | exact Or.inr rfl | trivial | decide | omega | simp) _ _ | refine sameX.sL ?_ (by first | rfl | exact Or.inl rfl | exact Or.inr rfl | trivial | decide | omega | simp) _ | refine sameX.sP ?_ (by first | rfl | exact Or.inl rfl | exact Or.inr rfl | trivial | decide | omega | simp) _ | refine sameX.sB ?_ (by first | rfl | exact Or.inl rfl | exact Or.inr rfl | trivial | decide | omega | simp) _ _)) ⟨rfl, rfl⟩
      have hsm : sm (aI A) w (fun i => if i = m then c else s i) m = sm (aI A) w s m := sm_c (fun i hi => if_neg (by omega))
      have hsc : (fun i => cpw (aI A) c (sm (aI A) w s m i)) = sm (aI A) w (fun i => if i = m then c else s i) (m + 1) := funext fun i => by
        show _ = cpw (aI A) (if m = m then c else s m) (sm (aI A) w (fun i => if i = m then c else s i) m i)
        rw [if_pos rfl, hsm]
      rw [C_smoked hC1.2.1 ok.1 (show c < iK (aI A) by omega) (sm_le ok.1 hw hs) hk, bd_s, hsc, nI_1]
      have hr1 : ∀ i, i < m + 1 → mA (sA σ 0 11 m (nI c)) 0 11 i = nI (if i = m then c else s i) := fun i hi => by
        simp only [mI_sI, mI_sL, mI_sP, mI_sA, mI_sB, mL_sI, mL_sL, mL_sP, mL_sA, mL_sB, mP_sI, mP_sL, mP_sP, mP_sA, mP_sB, mA_sI, mA_sL, mA_sP, mA_sAg, mA_sB, mB_sI, mB_sL, mB_sP, mB_sA, mB_sBg, mE_sI, mE_sL, mE_sP, mE_sA, mE_sB, Nat.reduceEqDiff, Nat.reduceAdd, Nat.reduceMul, Nat.reduceSub, Nat.reduceLT, Nat.reduceLeDiff, Nat.reduceDiv, Nat.reduceMod, Nat.reduceBEq, and_true, true_and, and_false, false_and, and_self, ite_true, ite_false, if_true, if_false, reduceIte, eq_self, not_true, not_false_eq_true, Bool.true_and, Bool.and_true, Bool.false_and, Bool.and_false, Bool.or_true, Bool.true_or, Bool.or_false, Bool.false_or, Bool.not_true, Bool.not_false, reduceCtorEq, upd_e, Nat.add_eq_zero_iff, Nat.add_right_cancel_iff, Nat.add_left_cancel_iff]
        by_cases e : i = m
        · rw [if_pos e, if_pos e]
        · rw [if_neg e, if_neg e]; exact hr i (by omega)
      have hd1 : dis (fun i => if i = m then c else s i) (m + 1) = true := by
        show (dis (fun i => if i = m then c else s i) m && !ahead (fun i => if i = m then c else s i) m (if m = m then c else s m)) = true
        rw [if_pos rfl, dis_c (t := s) (fun i hi => if_neg (by omega)), ahead_c (t := s) (fun i hi => if_neg (by omega)), hdis, eah]
        rfl
      obtain ⟨r, σ1, e1, c1, r1, y1, n1⟩ := ih (fun i => if i = m then c else s i) _ hC1 (fun i hi => by
        show (if i = m then c else s i) < _
        split
        · omega
        · exact hs i (by omega)) hd1 hr1
      rw [e1, bd2_s]
      have r0 : ∀ i, i < m → mA σ1 0 11 i = nI (s i) := fun i hi => by
        rw [r1 i (by omega)]
        exact congrArg nI (if_neg (by omega))
      cases r with
      | false =>
        rw [if_pos (show nI (b2n false) = 0 from rfl)]
        refine ih2 (c + 1) g σ1 (by omega) (by omega) c1 r0 (fun s'' ha hgd => ?_)
        have h1 := hmin s'' ha hgd
        by_cases e : s'' m = c
        · exact absurd hgd (n1 rfl s'' (fun i hi => by
            show s'' i = if i = m then c else s i
            by_cases ei : i = m
            · rw [if_pos ei, ei]; exact e
            · rw [if_neg ei]; exact ha i (by omega)))
        · omega
      | true =>
        rw [if_neg (show ¬ nI (b2n true) = 0 by decide)]
        obtain ⟨s', g1, g2, g3, g4⟩ := y1 rfl
        refine ⟨true, σ1, rfl, c1, r0, fun _ => ⟨s', fun i hi => (g1 i (by omega)).trans (if_neg (by omega)), g2, g3, fun s'' ha hgd => ?_⟩, fun h => absurd h (by decide)⟩
        have h1 := hmin s'' ha hgd
        have hsm' : s' m = c := (g1 m (by omega)).trans (if_pos rfl)
        by_cases e : s'' m = c
        · exact g4 s'' (fun i hi => by
            show s'' i = if i = m then c else s i
            by_cases ei : i = m
            · rw [if_pos ei, ei]; exact e
            · rw [if_neg ei]; exact ha i (by omega)) hgd
        · have := num_lex (K := iK (aI A)) (s := s') (t := s'') (m := m) (fun i hi => ((g1 i (by omega)).trans (if_neg (by omega))).trans (ha i hi).symm) (by omega) (d := n - (m + 1)) (fun i hi => g2.1 i (by omega))
          rw [show m + 1 + (n - (m + 1)) = n by omega] at this
          omega
theorem C_dfs {q q2 : Nat} {A : AS} (ok : AOK A) {k : Nat} (hk : k ≤ 5) {w : Nat → Nat} (hw : ∀ i, i < k → w i ≤ 10) {n : Nat} (hn : n ≤ iK (aI A)) : ∀ (f m fu : Nat) (s : Nat → Nat) (σ : Mem), m + f = n → f < fu → CSq σ q q2 A → (∀ i, i < m → s i < iK (aI A)) → dis s m = true → (∀ i, i < m → mA σ 0 11 i = nI (s i)) → found A w k n m q q2 s (fX5_canMake fu σ q 0 11 4 (nI (enc (sm (aI A) w s m) k)) (nI (enc (vW (aN A)) (vN (aN A)))) (nI m) (nI n)) := by
  have hK := ok.1.2.2.2.2.1
  intro f
  induction f with
  | zero =>
    intro m fu s σ hm hf hC hs hd hr
    obtain ⟨fu, rfl⟩ : ∃ m, fu = m + 1 := ⟨fu - 1, by omega⟩
    have em : m = n := by omega
    subst em
    have key := enc_same ok hk (sm_le ok.1 hw hs)
    rw [fX5_canMake.eq_2]
    unfold fX5_canMake_B fX5_canMake_14
    rw [if_pos (show nI m ≤ nI m by rw [leN (by omega) (by omega)]; omega)]
    cases e : sameL A (sm (aI A) w s m) k with
    | true =>
      rw [if_pos (key.mpr e)]
      exact ⟨true, σ, rfl, hC, hr, fun _ => ⟨s, fun i _ => rfl, ⟨hs, hd, e⟩, hr, fun s'' ha _ => Nat.le_of_eq (num_c (fun i hi => (ha i hi).symm))⟩, fun h => absurd h (by decide)⟩
    | false =>
      rw [if_neg (fun h => by rw [key.mp h] at e; exact absurd e (by decide))]
      refine ⟨false, σ, rfl, hC, hr, fun h => absurd h (by decide), fun _ s'' ha hg => ?_⟩
      have := hg.2.2
      rw [sm_c ha, e] at this
      exact absurd this (by decide)
  | succ f ih =>
    intro m fu s σ hm hf hC hs hd hr
    obtain ⟨fu, rfl⟩ : ∃ m, fu = m + 1 := ⟨fu - 1, by omega⟩
    rw [fX5_canMake.eq_2]
    unfold fX5_canMake_B
    rw [if_neg (show ¬ nI n ≤ nI m by rw [leN (by omega) (by omega)]; omega), ofN, if_pos (show nI m < nI 4 by rw [ltN (by omega) (by omega)]; omega)]
    exact C_28 ok hk hw hn (by omega) hs hd (fun s σ hC hs hd hr => ih (m + 1) fu s σ (by omega) (by omega) hC hs hd hr) (iK (aI A)) 0 FU σ (by omega) (by show _ < 1000; omega) hC hr (fun s'' _ _ => Nat.zero_le _)
