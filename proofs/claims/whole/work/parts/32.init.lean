theorem ob_of {D : va_G} {ws : va_W} {H : Heap} (hP : va_P D vwCl ws H) (k : Nat) {a ci : Nat} {fs : List Value} {C : String} {T : u_T} {N : Nat} (hk : ws[k]? = some (a, .inr (ci, fs))) (hc : vwCl[ci]? = some (C, T, N)) {V : Nat → Value} (hv : ∀ j, j < N → vp_V fs j = V j) : ∃ r : vw_C, vwCl[ci]? = some r ∧ t_OB a (D.1 ci) r.2.2 (D.2 ci) H V := by
  obtain ⟨r, h1, h2⟩ := hP k _ hk
  have hr : r = (C, T, N) := Option.some.inj (h1.symm.trans hc)
  subst hr
  exact ⟨_, hc, h2.to hv⟩
def gvb (sh : Nat → Option Nat) (o j : Nat) : Bool := match sh o with
  | none => false
  | some ci => match j with
    | 0 => true
    | k + 1 => match (kd ci)[k]? with
      | none => false
      | some q => decide (4 ≤ q.1)
theorem gv_b {G : gG} {o j : Nat} (h : gv G o j) : gvb (gsh G) o j = true := by
  obtain ⟨ci, h1, h2⟩ := h
  unfold gvb
  rw [h1]
  rcases h2 with rfl | ⟨k, q, rfl, h3, h4⟩
  · rfl
  · simp only [h3]
    exact decide_eq_true h4
theorem vq_eq {cA : ClassId} {n : Nat} {f g : Nat → Option Nat} (h : ∀ j, j < n → f j = g j) : vp_cell cA (n, .inr (.inr (.inr (.inr f)))) = vp_cell cA (n, .inr (.inr (.inr (.inr g)))) := by
  rw [vp_cell_q, vp_cell_q]
  unfold arrV
  congr 1
  apply Array.ext
  · simp
  · intro i h1 h2
    simp only [Array.getElem_ofFn]
    rw [h i (by simpa using h1)]

/-- C: objects 0: SmokedLetters, 1: SmokedLetters$Text, 2: SmokedLetters$Island, 3: SmokedLetters$Island, 4: SmokedLetters$Now, 5: SmokedLetters$History, 6: SmokedLetters$Plans, 7: SmokedLetters$Now, 8: SmokedLetters$Now, 9: SmokedLetters$Now, 10: SmokedLetters$Now, 11: SmokedLetters$Now, 12: SmokedLetters$Now, 13: SmokedLetters$Now, 14: SmokedLetters$Now, 15: SmokedLetters$Now, 16: SmokedLetters$Now, 17: SmokedLetters$Now, 18: SmokedLetters$Now -/
def shCL : List Nat := [5, 4, 1, 1, 2, 0, 3, 2, 2, 2, 2, 2, 2, 2, 2, 2, 2, 2, 2]
def shC : Nat → Option Nat := fun o => shCL[o]?
def ofCL : List (List Nat) := [[0, 0, 0, 0, 0, 0, 53, 0, 0, 59, 60, 0, 61, 62, 0], [1, 0, 2, 0, 0, 0, 0, 3, 0, 0, 0], [4, 0, 0, 0, 0, 0, 5, 6, 7, 8, 9, 10], [11, 0, 0, 0, 0, 0, 12, 13, 14, 15, 16, 17], [18, 0, 0, 0, 0, 19, 20], [21, 0, 0, 22], [54, 55, 56, 57, 58, 0], [63, 0, 0, 0, 0, 64, 65], [66, 0, 0, 0, 0, 67, 68], [23, 0, 0, 0, 0, 24, 25], [26, 0, 0, 0, 0, 27, 28], [29, 0, 0, 0, 0, 30, 31], [32, 0, 0, 0, 0, 33, 34], [35, 0, 0, 0, 0, 36, 37], [38, 0, 0, 0, 0, 39, 40], [41, 0, 0, 0, 0, 42, 43], [44, 0, 0, 0, 0, 45, 46], [47, 0, 0, 0, 0, 48, 49], [50, 0, 0, 0, 0, 51, 52]]
def ofC (o j : Nat) : Nat := (ofCL.getD o []).getD j 0
def iICL : List (List Int32) := [[0, 0, 0, 0, 0, 0, 0, 0, 0, 0, 0, 0, 0, 0], [0, 0, 0, 0, 0, 0, 0, 0, 0, 0], [10, 2, 1, 0, 0, 0, 0, 0, 0, 0, 0], [10, 2, 1, 0, 0, 0, 0, 0, 0, 0, 0], [0, 0, 0, 1, 0, 0], [0, 0, 0], [0, 0, 0, 0, 0], [0, 0, 0, 1, 0, 0], [0, 0, 0, 1, 0, 0], [0, 0, 0, 1, 0, 0], [0, 0, 0, 1, 0, 0], [0, 0, 0, 1, 0, 0], [0, 0, 0, 1, 0, 0], [0, 0, 0, 1, 0, 0], [0, 0, 0, 1, 0, 0], [0, 0, 0, 1, 0, 0], [0, 0, 0, 1, 0, 0], [0, 0, 0, 1, 0, 0], [0, 0, 0, 1, 0, 0]]
def iPCL : List (List Nat) := [[1, 2, 3, 4, 5, 0, 0, 6, 0, 0, 0, 0, 0, 0], [0, 0, 0, 0, 0, 0, 0, 0, 0, 0], [0, 0, 0, 0, 0, 0, 0, 0, 0, 0, 0], [0, 0, 0, 0, 0, 0, 0, 0, 0, 0, 0], [0, 0, 0, 0, 0, 0], [0, 0, 0], [0, 0, 0, 0, 0], [0, 0, 0, 0, 0, 0], [0, 0, 0, 0, 0, 0], [0, 0, 0, 0, 0, 0], [0, 0, 0, 0, 0, 0], [0, 0, 0, 0, 0, 0], [0, 0, 0, 0, 0, 0], [0, 0, 0, 0, 0, 0], [0, 0, 0, 0, 0, 0], [0, 0, 0, 0, 0, 0], [0, 0, 0, 0, 0, 0], [0, 0, 0, 0, 0, 0], [0, 0, 0, 0, 0, 0]]
def σC0 : Mem := (fun o k => (iICL.getD o []).getD k 0, fun _ _ => 0, fun o k => (iPCL.getD o []).getD k 0, fun o k => (fun _ => 0), fun _ _ _ => 0, fun o k i => if o = 0 ∧ k = 5 then ([7, 8] : List Nat).getD i 0 else if o = 5 ∧ k = 2 then ([9, 10, 11, 12, 13, 14, 15, 16, 17, 18] : List Nat).getD i 0 else 0)
def GC (D : va_G) (ca : Nat → ClassId) (base : Nat) : gG := (D, ca, shC, fun o j => base + ofC o j, fun q => base ≤ q ∧ q < base + 69)
def kyC : List (Nat × Nat) := ((List.range 19).flatMap fun o => (List.range 15).map fun j => (o, j)).filter fun x => gvb shC x.1 x.2
theorem kyC_a : kyC.all (fun x => kyC.all (fun y => decide (ofC x.1 x.2 ≠ ofC y.1 y.2) || decide (x = y))) = true := by decide +kernel
theorem kyC_b : kyC.all (fun x => decide (ofC x.1 x.2 < 69)) = true := by decide +kernel
theorem kyC_in {D : va_G} {ca : Nat → ClassId} {base o j : Nat} (h : gv (GC D ca base) o j) : (o, j) ∈ kyC := by
  have hb := gv_b h
  have hb : gvb shC o j = true := hb
  have ho : o < 19 := by
    rcases Nat.lt_or_ge o 19 with q | q
    · exact q
    · have : shC o = none := List.getElem?_eq_none (by show shCL.length ≤ o; exact q)
      unfold gvb at hb
      rw [this] at hb
      cases hb
  have hj : j < 15 := by
    obtain ⟨ci, h1, h2⟩ := h
    have h1 : shC o = some ci := h1
    rcases h2 with rfl | ⟨k, q, rfl, h3, -⟩
    · decide
    · have hl : ∀ x ∈ shCL, (kd x).length < 15 := by decide
      have := hl ci (List.mem_of_getElem? h1)
      have := (List.getElem?_eq_some_iff.mp h3).1
      omega
  unfold kyC
  simp only [List.mem_filter, List.mem_flatMap, List.mem_range, List.mem_map]
  exact ⟨⟨o, ho, j, hj, rfl⟩, hb⟩
theorem gDC (D : va_G) (ca : Nat → ClassId) (base : Nat) : gD (GC D ca base) := by
  refine ⟨fun o j o' j' h h' he => ?_, fun o j h => ?_⟩
  · have h1 := List.all_eq_true.mp (List.all_eq_true.mp kyC_a _ (kyC_in h)) _ (kyC_in h')
    have he : base + ofC o j = base + ofC o' j' := he
    simp only [Bool.or_eq_true, decide_eq_true_eq] at h1
    rcases h1 with h1 | h1
    · exact absurd (Nat.add_left_cancel he) h1
    · exact Prod.mk.inj h1
  · have h1 := List.all_eq_true.mp kyC_b _ (kyC_in h)
    simp only [decide_eq_true_eq] at h1
    exact ⟨Nat.le_add_right _ _, Nat.add_lt_add_left h1 _⟩
set_option maxRecDepth 100000 in
set_option maxHeartbeats 4000000 in
theorem gHC0 {D : va_G} {ca : Nat → ClassId} {base : Nat} {H : Heap} (hP : va_P D vwCl [(base, .inr (5, [.ref (base + 1), .ref (base + 4), .ref (base + 11), .ref (base + 18), .ref (base + 21), .ref (base + 53), .int 0, .ref (base + 54), .ref (base + 59), .ref (base + 60), .int 0, .ref (base + 61), .ref (base + 62), .long 0])), ((base + 1), .inr (4, [.int 0, .ref (base + 2), .int 0, .int 0, .int 0, .int 0, .ref (base + 3), .int 0, .int 0, .int 0])), ((base + 2), .inl (ca 4, 200, .inl (fun _ => 0))), ((base + 3), .inl (ca 4, 3, .inl (fun _ => 0))), ((base + 5), .inl (ca 4, 6, .inl (fun _ => 0))), ((base + 6), .inl (ca 4, 6, .inl (fun _ => 0))), ((base + 7), .inl (ca 4, 6, .inl (fun _ => 0))), ((base + 8), .inl (ca 4, 4, .inl (fun _ => 0))), ((base + 9), .inl (ca 4, 4, .inl (fun _ => 0))), ((base + 10), .inl (ca 4, 4, .inl (fun _ => 0))), ((base + 4), .inr (1, [.int 10, .int 2, .int 1, .int 0, .int 0, .ref (base + 5), .ref (base + 6), .ref (base + 7), .ref (base + 8), .ref (base + 9), .ref (base + 10)])), ((base + 12), .inl (ca 4, 6, .inl (fun _ => 0))), ((base + 13), .inl (ca 4, 6, .inl (fun _ => 0))), ((base + 14), .inl (ca 4, 6, .inl (fun _ => 0))), ((base + 15), .inl (ca 4, 4, .inl (fun _ => 0))), ((base + 16), .inl (ca 4, 4, .inl (fun _ => 0))), ((base + 17), .inl (ca 4, 4, .inl (fun _ => 0))), ((base + 11), .inr (1, [.int 10, .int 2, .int 1, .int 0, .int 0, .ref (base + 12), .ref (base + 13), .ref (base + 14), .ref (base + 15), .ref (base + 16), .ref (base + 17)])), ((base + 18), .inr (2, [.int 0, .int 0, .int 0, .int 1, .ref (base + 19), .ref (base + 20)])), ((base + 19), .inl (ca 4, 3, .inl (fun _ => 0))), ((base + 20), .inl (ca 4, 3, .inl (fun _ => 0))), ((base + 21), .inr (0, [.int 0, .int 0, .ref (base + 22)])), ((base + 22), .inl (ca 7, 10, .inr (.inr (.inr (.inr (va_up (va_up (va_up (va_up (va_up (va_up (va_up (va_up (va_up (va_up (fun _ => none) 0 (some (base + 23))) 1 (some (base + 26))) 2 (some (base + 29))) 3 (some (base + 32))) 4 (some (base + 35))) 5 (some (base + 38))) 6 (some (base + 41))) 7 (some (base + 44))) 8 (some (base + 47))) 9 (some (base + 50)))))))), ((base + 23), .inr (2, [.int 0, .int 0, .int 0, .int 1, .ref (base + 24), .ref (base + 25)])), ((base + 24), .inl (ca 4, 3, .inl (fun _ => 0))), ((base + 25), .inl (ca 4, 3, .inl (fun _ => 0))), ((base + 26), .inr (2, [.int 0, .int 0, .int 0, .int 1, .ref (base + 27), .ref (base + 28)])), ((base + 27), .inl (ca 4, 3, .inl (fun _ => 0))), ((base + 28), .inl (ca 4, 3, .inl (fun _ => 0))), ((base + 29), .inr (2, [.int 0, .int 0, .int 0, .int 1, .ref (base + 30), .ref (base + 31)])), ((base + 30), .inl (ca 4, 3, .inl (fun _ => 0))), ((base + 31), .inl (ca 4, 3, .inl (fun _ => 0))), ((base + 32), .inr (2, [.int 0, .int 0, .int 0, .int 1, .ref (base + 33), .ref (base + 34)])), ((base + 33), .inl (ca 4, 3, .inl (fun _ => 0))), ((base + 34), .inl (ca 4, 3, .inl (fun _ => 0))), ((base + 35), .inr (2, [.int 0, .int 0, .int 0, .int 1, .ref (base + 36), .ref (base + 37)])), ((base + 36), .inl (ca 4, 3, .inl (fun _ => 0))), ((base + 37), .inl (ca 4, 3, .inl (fun _ => 0))), ((base + 38), .inr (2, [.int 0, .int 0, .int 0, .int 1, .ref (base + 39), .ref (base + 40)])), ((base + 39), .inl (ca 4, 3, .inl (fun _ => 0))), ((base + 40), .inl (ca 4, 3, .inl (fun _ => 0))), ((base + 41), .inr (2, [.int 0, .int 0, .int 0, .int 1, .ref (base + 42), .ref (base + 43)])), ((base + 42), .inl (ca 4, 3, .inl (fun _ => 0))), ((base + 43), .inl (ca 4, 3, .inl (fun _ => 0))), ((base + 44), .inr (2, [.int 0, .int 0, .int 0, .int 1, .ref (base + 45), .ref (base + 46)])), ((base + 45), .inl (ca 4, 3, .inl (fun _ => 0))), ((base + 46), .inl (ca 4, 3, .inl (fun _ => 0))), ((base + 47), .inr (2, [.int 0, .int 0, .int 0, .int 1, .ref (base + 48), .ref (base + 49)])), ((base + 48), .inl (ca 4, 3, .inl (fun _ => 0))), ((base + 49), .inl (ca 4, 3, .inl (fun _ => 0))), ((base + 50), .inr (2, [.int 0, .int 0, .int 0, .int 1, .ref (base + 51), .ref (base + 52)])), ((base + 51), .inl (ca 4, 3, .inl (fun _ => 0))), ((base + 52), .inl (ca 4, 3, .inl (fun _ => 0))), ((base + 53), .inl (ca 7, 2, .inr (.inr (.inr (.inr (va_up (va_up (fun _ => none) 0 (some (base + 63))) 1 (some (base + 66)))))))), ((base + 54), .inr (3, [.ref (base + 55), .ref (base + 56), .ref (base + 57), .ref (base + 58), .int 0])), ((base + 55), .inl (ca 4, 6, .inl (fun _ => 0))), ((base + 56), .inl (ca 4, 3, .inl (fun _ => 0))), ((base + 57), .inl (ca 4, 64, .inl (fun _ => 0))), ((base + 58), .inl (ca 4, 64, .inl (fun _ => 0))), ((base + 59), .inl (ca 4, 4, .inl (fun _ => 0))), ((base + 60), .inl (ca 4, 4, .inl (fun _ => 0))), ((base + 61), .inl (ca 4, 4, .inl (fun _ => 0))), ((base + 62), .inl (ca 4, 7, .inl (fun _ => 0))), ((base + 63), .inr (2, [.int 0, .int 0, .int 0, .int 1, .ref (base + 64), .ref (base + 65)])), ((base + 64), .inl (ca 4, 3, .inl (fun _ => 0))), ((base + 65), .inl (ca 4, 3, .inl (fun _ => 0))), ((base + 66), .inr (2, [.int 0, .int 0, .int 0, .int 1, .ref (base + 67), .ref (base + 68)])), ((base + 67), .inl (ca 4, 3, .inl (fun _ => 0))), ((base + 68), .inl (ca 4, 3, .inl (fun _ => 0)))] H) : gH (GC D ca base) σC0 H := by
  refine ⟨fun o ci ho => ?_, fun o ci k q ho hq h4 => ?_, fun o ci k c' ho hq => ?_, fun o ci k n i ho hq hi => ?_⟩
  · have ho : shCL[o]? = some ci := ho
    match o, ho with
    | 0, ho => cases ho; exact ob_of hP 0 rfl (N := 14) rfl (fun j hj => by rcases (show j = 0 ∨ j = 1 ∨ j = 2 ∨ j = 3 ∨ j = 4 ∨ j = 5 ∨ j = 6 ∨ j = 7 ∨ j = 8 ∨ j = 9 ∨ j = 10 ∨ j = 11 ∨ j = 12 ∨ j = 13 by omega) with rfl | rfl | rfl | rfl | rfl | rfl | rfl | rfl | rfl | rfl | rfl | rfl | rfl | rfl <;> rfl)
    | 1, ho => cases ho; exact ob_of hP 1 rfl (N := 10) rfl (fun j hj => by rcases (show j = 0 ∨ j = 1 ∨ j = 2 ∨ j = 3 ∨ j = 4 ∨ j = 5 ∨ j = 6 ∨ j = 7 ∨ j = 8 ∨ j = 9 by omega) with rfl | rfl | rfl | rfl | rfl | rfl | rfl | rfl | rfl | rfl <;> rfl)
    | 2, ho => cases ho; exact ob_of hP 10 rfl (N := 11) rfl (fun j hj => by rcases (show j = 0 ∨ j = 1 ∨ j = 2 ∨ j = 3 ∨ j = 4 ∨ j = 5 ∨ j = 6 ∨ j = 7 ∨ j = 8 ∨ j = 9 ∨ j = 10 by omega) with rfl | rfl | rfl | rfl | rfl | rfl | rfl | rfl | rfl | rfl | rfl <;> rfl)
    | 3, ho => cases ho; exact ob_of hP 17 rfl (N := 11) rfl (fun j hj => by rcases (show j = 0 ∨ j = 1 ∨ j = 2 ∨ j = 3 ∨ j = 4 ∨ j = 5 ∨ j = 6 ∨ j = 7 ∨ j = 8 ∨ j = 9 ∨ j = 10 by omega) with rfl | rfl | rfl | rfl | rfl | rfl | rfl | rfl | rfl | rfl | rfl <;> rfl)
    | 4, ho => cases ho; exact ob_of hP 18 rfl (N := 6) rfl (fun j hj => by rcases (show j = 0 ∨ j = 1 ∨ j = 2 ∨ j = 3 ∨ j = 4 ∨ j = 5 by omega) with rfl | rfl | rfl | rfl | rfl | rfl <;> rfl)
    | 5, ho => cases ho; exact ob_of hP 21 rfl (N := 3) rfl (fun j hj => by rcases (show j = 0 ∨ j = 1 ∨ j = 2 by omega) with rfl | rfl | rfl <;> rfl)
    | 6, ho => cases ho; exact ob_of hP 54 rfl (N := 5) rfl (fun j hj => by rcases (show j = 0 ∨ j = 1 ∨ j = 2 ∨ j = 3 ∨ j = 4 by omega) with rfl | rfl | rfl | rfl | rfl <;> rfl)
    | 7, ho => cases ho; exact ob_of hP 63 rfl (N := 6) rfl (fun j hj => by rcases (show j = 0 ∨ j = 1 ∨ j = 2 ∨ j = 3 ∨ j = 4 ∨ j = 5 by omega) with rfl | rfl | rfl | rfl | rfl | rfl <;> rfl)
    | 8, ho => cases ho; exact ob_of hP 66 rfl (N := 6) rfl (fun j hj => by rcases (show j = 0 ∨ j = 1 ∨ j = 2 ∨ j = 3 ∨ j = 4 ∨ j = 5 by omega) with rfl | rfl | rfl | rfl | rfl | rfl <;> rfl)
    | 9, ho => cases ho; exact ob_of hP 23 rfl (N := 6) rfl (fun j hj => by rcases (show j = 0 ∨ j = 1 ∨ j = 2 ∨ j = 3 ∨ j = 4 ∨ j = 5 by omega) with rfl | rfl | rfl | rfl | rfl | rfl <;> rfl)
    | 10, ho => cases ho; exact ob_of hP 26 rfl (N := 6) rfl (fun j hj => by rcases (show j = 0 ∨ j = 1 ∨ j = 2 ∨ j = 3 ∨ j = 4 ∨ j = 5 by omega) with rfl | rfl | rfl | rfl | rfl | rfl <;> rfl)
    | 11, ho => cases ho; exact ob_of hP 29 rfl (N := 6) rfl (fun j hj => by rcases (show j = 0 ∨ j = 1 ∨ j = 2 ∨ j = 3 ∨ j = 4 ∨ j = 5 by omega) with rfl | rfl | rfl | rfl | rfl | rfl <;> rfl)
    | 12, ho => cases ho; exact ob_of hP 32 rfl (N := 6) rfl (fun j hj => by rcases (show j = 0 ∨ j = 1 ∨ j = 2 ∨ j = 3 ∨ j = 4 ∨ j = 5 by omega) with rfl | rfl | rfl | rfl | rfl | rfl <;> rfl)
    | 13, ho => cases ho; exact ob_of hP 35 rfl (N := 6) rfl (fun j hj => by rcases (show j = 0 ∨ j = 1 ∨ j = 2 ∨ j = 3 ∨ j = 4 ∨ j = 5 by omega) with rfl | rfl | rfl | rfl | rfl | rfl <;> rfl)
    | 14, ho => cases ho; exact ob_of hP 38 rfl (N := 6) rfl (fun j hj => by rcases (show j = 0 ∨ j = 1 ∨ j = 2 ∨ j = 3 ∨ j = 4 ∨ j = 5 by omega) with rfl | rfl | rfl | rfl | rfl | rfl <;> rfl)
    | 15, ho => cases ho; exact ob_of hP 41 rfl (N := 6) rfl (fun j hj => by rcases (show j = 0 ∨ j = 1 ∨ j = 2 ∨ j = 3 ∨ j = 4 ∨ j = 5 by omega) with rfl | rfl | rfl | rfl | rfl | rfl <;> rfl)
    | 16, ho => cases ho; exact ob_of hP 44 rfl (N := 6) rfl (fun j hj => by rcases (show j = 0 ∨ j = 1 ∨ j = 2 ∨ j = 3 ∨ j = 4 ∨ j = 5 by omega) with rfl | rfl | rfl | rfl | rfl | rfl <;> rfl)
    | 17, ho => cases ho; exact ob_of hP 47 rfl (N := 6) rfl (fun j hj => by rcases (show j = 0 ∨ j = 1 ∨ j = 2 ∨ j = 3 ∨ j = 4 ∨ j = 5 by omega) with rfl | rfl | rfl | rfl | rfl | rfl <;> rfl)
    | 18, ho => cases ho; exact ob_of hP 50 rfl (N := 6) rfl (fun j hj => by rcases (show j = 0 ∨ j = 1 ∨ j = 2 ∨ j = 3 ∨ j = 4 ∨ j = 5 by omega) with rfl | rfl | rfl | rfl | rfl | rfl <;> rfl)
    | n + 19, ho => exact nomatch (show (none : Option Nat) = some ci from ho)
  · have ho : shCL[o]? = some ci := ho
    match o, ho with
    | 0, ho =>
      cases ho
      match k, hq with
      | 0, hq => cases hq; exact absurd h4 (by decide)
      | 1, hq => cases hq; exact absurd h4 (by decide)
      | 2, hq => cases hq; exact absurd h4 (by decide)
      | 3, hq => cases hq; exact absurd h4 (by decide)
      | 4, hq => cases hq; exact absurd h4 (by decide)
      | 5, hq => cases hq; exact (show H[_]? = some (vp_cell _ _) from hP 53 _ rfl).trans (congrArg some (vq_eq (fun j hj => by rcases (show j = 0 ∨ j = 1 by omega) with rfl | rfl <;> rfl)))
      | 6, hq => cases hq; exact absurd h4 (by decide)
      | 7, hq => cases hq; exact absurd h4 (by decide)
      | 8, hq => cases hq; exact hP 59 _ rfl
      | 9, hq => cases hq; exact hP 60 _ rfl
      | 10, hq => cases hq; exact absurd h4 (by decide)
      | 11, hq => cases hq; exact hP 61 _ rfl
      | 12, hq => cases hq; exact hP 62 _ rfl
      | 13, hq => cases hq; exact absurd h4 (by decide)
      | n + 14, hq => exact nomatch (show (none : Option (Nat × Nat)) = some q from hq)
    | 1, ho =>
      cases ho
      match k, hq with
      | 0, hq => cases hq; exact absurd h4 (by decide)
      | 1, hq => cases hq; exact hP 2 _ rfl
      | 2, hq => cases hq; exact absurd h4 (by decide)
      | 3, hq => cases hq; exact absurd h4 (by decide)
      | 4, hq => cases hq; exact absurd h4 (by decide)
      | 5, hq => cases hq; exact absurd h4 (by decide)
      | 6, hq => cases hq; exact hP 3 _ rfl
      | 7, hq => cases hq; exact absurd h4 (by decide)
      | 8, hq => cases hq; exact absurd h4 (by decide)
      | 9, hq => cases hq; exact absurd h4 (by decide)
      | n + 10, hq => exact nomatch (show (none : Option (Nat × Nat)) = some q from hq)
    | 2, ho =>
      cases ho
      match k, hq with
      | 0, hq => cases hq; exact absurd h4 (by decide)
      | 1, hq => cases hq; exact absurd h4 (by decide)
      | 2, hq => cases hq; exact absurd h4 (by decide)
      | 3, hq => cases hq; exact absurd h4 (by decide)
      | 4, hq => cases hq; exact absurd h4 (by decide)
      | 5, hq => cases hq; exact hP 4 _ rfl
      | 6, hq => cases hq; exact hP 5 _ rfl
      | 7, hq => cases hq; exact hP 6 _ rfl
      | 8, hq => cases hq; exact hP 7 _ rfl
      | 9, hq => cases hq; exact hP 8 _ rfl
      | 10, hq => cases hq; exact hP 9 _ rfl
      | n + 11, hq => exact nomatch (show (none : Option (Nat × Nat)) = some q from hq)
    | 3, ho =>
      cases ho
      match k, hq with
      | 0, hq => cases hq; exact absurd h4 (by decide)
      | 1, hq => cases hq; exact absurd h4 (by decide)
      | 2, hq => cases hq; exact absurd h4 (by decide)
      | 3, hq => cases hq; exact absurd h4 (by decide)
      | 4, hq => cases hq; exact absurd h4 (by decide)
      | 5, hq => cases hq; exact hP 11 _ rfl
      | 6, hq => cases hq; exact hP 12 _ rfl
      | 7, hq => cases hq; exact hP 13 _ rfl
      | 8, hq => cases hq; exact hP 14 _ rfl
      | 9, hq => cases hq; exact hP 15 _ rfl
      | 10, hq => cases hq; exact hP 16 _ rfl
      | n + 11, hq => exact nomatch (show (none : Option (Nat × Nat)) = some q from hq)
    | 4, ho =>
      cases ho
      match k, hq with
      | 0, hq => cases hq; exact absurd h4 (by decide)
      | 1, hq => cases hq; exact absurd h4 (by decide)
      | 2, hq => cases hq; exact absurd h4 (by decide)
      | 3, hq => cases hq; exact absurd h4 (by decide)
      | 4, hq => cases hq; exact hP 19 _ rfl
      | 5, hq => cases hq; exact hP 20 _ rfl
      | n + 6, hq => exact nomatch (show (none : Option (Nat × Nat)) = some q from hq)
    | 5, ho =>
      cases ho
      match k, hq with
      | 0, hq => cases hq; exact absurd h4 (by decide)
      | 1, hq => cases hq; exact absurd h4 (by decide)
      | 2, hq => cases hq; exact (show H[_]? = some (vp_cell _ _) from hP 22 _ rfl).trans (congrArg some (vq_eq (fun j hj => by rcases (show j = 0 ∨ j = 1 ∨ j = 2 ∨ j = 3 ∨ j = 4 ∨ j = 5 ∨ j = 6 ∨ j = 7 ∨ j = 8 ∨ j = 9 by omega) with rfl | rfl | rfl | rfl | rfl | rfl | rfl | rfl | rfl | rfl <;> rfl)))
      | n + 3, hq => exact nomatch (show (none : Option (Nat × Nat)) = some q from hq)
    | 6, ho =>
      cases ho
      match k, hq with
      | 0, hq => cases hq; exact hP 55 _ rfl
      | 1, hq => cases hq; exact hP 56 _ rfl
      | 2, hq => cases hq; exact hP 57 _ rfl
      | 3, hq => cases hq; exact hP 58 _ rfl
      | 4, hq => cases hq; exact absurd h4 (by decide)
      | n + 5, hq => exact nomatch (show (none : Option (Nat × Nat)) = some q from hq)
    | 7, ho =>
      cases ho
      match k, hq with
      | 0, hq => cases hq; exact absurd h4 (by decide)
      | 1, hq => cases hq; exact absurd h4 (by decide)
      | 2, hq => cases hq; exact absurd h4 (by decide)
      | 3, hq => cases hq; exact absurd h4 (by decide)
      | 4, hq => cases hq; exact hP 64 _ rfl
      | 5, hq => cases hq; exact hP 65 _ rfl
      | n + 6, hq => exact nomatch (show (none : Option (Nat × Nat)) = some q from hq)
    | 8, ho =>
      cases ho
      match k, hq with
      | 0, hq => cases hq; exact absurd h4 (by decide)
      | 1, hq => cases hq; exact absurd h4 (by decide)
      | 2, hq => cases hq; exact absurd h4 (by decide)
      | 3, hq => cases hq; exact absurd h4 (by decide)
      | 4, hq => cases hq; exact hP 67 _ rfl
      | 5, hq => cases hq; exact hP 68 _ rfl
      | n + 6, hq => exact nomatch (show (none : Option (Nat × Nat)) = some q from hq)
    | 9, ho =>
      cases ho
      match k, hq with
      | 0, hq => cases hq; exact absurd h4 (by decide)
      | 1, hq => cases hq; exact absurd h4 (by decide)
      | 2, hq => cases hq; exact absurd h4 (by decide)
      | 3, hq => cases hq; exact absurd h4 (by decide)
      | 4, hq => cases hq; exact hP 24 _ rfl
      | 5, hq => cases hq; exact hP 25 _ rfl
      | n + 6, hq => exact nomatch (show (none : Option (Nat × Nat)) = some q from hq)
    | 10, ho =>
      cases ho
      match k, hq with
      | 0, hq => cases hq; exact absurd h4 (by decide)
      | 1, hq => cases hq; exact absurd h4 (by decide)
      | 2, hq => cases hq; exact absurd h4 (by decide)
      | 3, hq => cases hq; exact absurd h4 (by decide)
      | 4, hq => cases hq; exact hP 27 _ rfl
      | 5, hq => cases hq; exact hP 28 _ rfl
      | n + 6, hq => exact nomatch (show (none : Option (Nat × Nat)) = some q from hq)
    | 11, ho =>
      cases ho
      match k, hq with
      | 0, hq => cases hq; exact absurd h4 (by decide)
      | 1, hq => cases hq; exact absurd h4 (by decide)
      | 2, hq => cases hq; exact absurd h4 (by decide)
      | 3, hq => cases hq; exact absurd h4 (by decide)
      | 4, hq => cases hq; exact hP 30 _ rfl
      | 5, hq => cases hq; exact hP 31 _ rfl
      | n + 6, hq => exact nomatch (show (none : Option (Nat × Nat)) = some q from hq)
    | 12, ho =>
      cases ho
      match k, hq with
      | 0, hq => cases hq; exact absurd h4 (by decide)
      | 1, hq => cases hq; exact absurd h4 (by decide)
      | 2, hq => cases hq; exact absurd h4 (by decide)
      | 3, hq => cases hq; exact absurd h4 (by decide)
      | 4, hq => cases hq; exact hP 33 _ rfl
      | 5, hq => cases hq; exact hP 34 _ rfl
      | n + 6, hq => exact nomatch (show (none : Option (Nat × Nat)) = some q from hq)
    | 13, ho =>
      cases ho
      match k, hq with
      | 0, hq => cases hq; exact absurd h4 (by decide)
      | 1, hq => cases hq; exact absurd h4 (by decide)
      | 2, hq => cases hq; exact absurd h4 (by decide)
      | 3, hq => cases hq; exact absurd h4 (by decide)
      | 4, hq => cases hq; exact hP 36 _ rfl
      | 5, hq => cases hq; exact hP 37 _ rfl
      | n + 6, hq => exact nomatch (show (none : Option (Nat × Nat)) = some q from hq)
    | 14, ho =>
      cases ho
      match k, hq with
      | 0, hq => cases hq; exact absurd h4 (by decide)
      | 1, hq => cases hq; exact absurd h4 (by decide)
      | 2, hq => cases hq; exact absurd h4 (by decide)
      | 3, hq => cases hq; exact absurd h4 (by decide)
      | 4, hq => cases hq; exact hP 39 _ rfl
      | 5, hq => cases hq; exact hP 40 _ rfl
      | n + 6, hq => exact nomatch (show (none : Option (Nat × Nat)) = some q from hq)
    | 15, ho =>
      cases ho
      match k, hq with
      | 0, hq => cases hq; exact absurd h4 (by decide)
      | 1, hq => cases hq; exact absurd h4 (by decide)
      | 2, hq => cases hq; exact absurd h4 (by decide)
      | 3, hq => cases hq; exact absurd h4 (by decide)
      | 4, hq => cases hq; exact hP 42 _ rfl
      | 5, hq => cases hq; exact hP 43 _ rfl
      | n + 6, hq => exact nomatch (show (none : Option (Nat × Nat)) = some q from hq)
    | 16, ho =>
      cases ho
      match k, hq with
      | 0, hq => cases hq; exact absurd h4 (by decide)
      | 1, hq => cases hq; exact absurd h4 (by decide)
      | 2, hq => cases hq; exact absurd h4 (by decide)
      | 3, hq => cases hq; exact absurd h4 (by decide)
      | 4, hq => cases hq; exact hP 45 _ rfl
      | 5, hq => cases hq; exact hP 46 _ rfl
      | n + 6, hq => exact nomatch (show (none : Option (Nat × Nat)) = some q from hq)
    | 17, ho =>
      cases ho
      match k, hq with
      | 0, hq => cases hq; exact absurd h4 (by decide)
      | 1, hq => cases hq; exact absurd h4 (by decide)
      | 2, hq => cases hq; exact absurd h4 (by decide)
      | 3, hq => cases hq; exact absurd h4 (by decide)
      | 4, hq => cases hq; exact hP 48 _ rfl
      | 5, hq => cases hq; exact hP 49 _ rfl
      | n + 6, hq => exact nomatch (show (none : Option (Nat × Nat)) = some q from hq)
    | 18, ho =>
      cases ho
      match k, hq with
      | 0, hq => cases hq; exact absurd h4 (by decide)
      | 1, hq => cases hq; exact absurd h4 (by decide)
      | 2, hq => cases hq; exact absurd h4 (by decide)
      | 3, hq => cases hq; exact absurd h4 (by decide)
      | 4, hq => cases hq; exact hP 51 _ rfl
      | 5, hq => cases hq; exact hP 52 _ rfl
      | n + 6, hq => exact nomatch (show (none : Option (Nat × Nat)) = some q from hq)
    | n + 19, ho => exact nomatch (show (none : Option Nat) = some ci from ho)
  · have ho : shCL[o]? = some ci := ho
    match o, ho with
    | 0, ho =>
      cases ho
      match k, hq with
      | 0, hq => cases hq; rfl
      | 1, hq => cases hq; rfl
      | 2, hq => cases hq; rfl
      | 3, hq => cases hq; rfl
      | 4, hq => cases hq; rfl
      | 5, hq => simp [kd] at hq
      | 6, hq => simp [kd] at hq
      | 7, hq => cases hq; rfl
      | 8, hq => simp [kd] at hq
      | 9, hq => simp [kd] at hq
      | 10, hq => simp [kd] at hq
      | 11, hq => simp [kd] at hq
      | 12, hq => simp [kd] at hq
      | 13, hq => simp [kd] at hq
      | n + 14, hq => exact nomatch (show (none : Option (Nat × Nat)) = some _ from hq)
    | 1, ho => cases ho; exact absurd (List.mem_of_getElem? hq) (by show ¬ (_ ∈ kd 4); simp [kd])
    | 2, ho => cases ho; exact absurd (List.mem_of_getElem? hq) (by show ¬ (_ ∈ kd 1); simp [kd])
    | 3, ho => cases ho; exact absurd (List.mem_of_getElem? hq) (by show ¬ (_ ∈ kd 1); simp [kd])
    | 4, ho => cases ho; exact absurd (List.mem_of_getElem? hq) (by show ¬ (_ ∈ kd 2); simp [kd])
    | 5, ho => cases ho; exact absurd (List.mem_of_getElem? hq) (by show ¬ (_ ∈ kd 0); simp [kd])
    | 6, ho => cases ho; exact absurd (List.mem_of_getElem? hq) (by show ¬ (_ ∈ kd 3); simp [kd])
    | 7, ho => cases ho; exact absurd (List.mem_of_getElem? hq) (by show ¬ (_ ∈ kd 2); simp [kd])
    | 8, ho => cases ho; exact absurd (List.mem_of_getElem? hq) (by show ¬ (_ ∈ kd 2); simp [kd])
    | 9, ho => cases ho; exact absurd (List.mem_of_getElem? hq) (by show ¬ (_ ∈ kd 2); simp [kd])
    | 10, ho => cases ho; exact absurd (List.mem_of_getElem? hq) (by show ¬ (_ ∈ kd 2); simp [kd])
    | 11, ho => cases ho; exact absurd (List.mem_of_getElem? hq) (by show ¬ (_ ∈ kd 2); simp [kd])
    | 12, ho => cases ho; exact absurd (List.mem_of_getElem? hq) (by show ¬ (_ ∈ kd 2); simp [kd])
    | 13, ho => cases ho; exact absurd (List.mem_of_getElem? hq) (by show ¬ (_ ∈ kd 2); simp [kd])
    | 14, ho => cases ho; exact absurd (List.mem_of_getElem? hq) (by show ¬ (_ ∈ kd 2); simp [kd])
    | 15, ho => cases ho; exact absurd (List.mem_of_getElem? hq) (by show ¬ (_ ∈ kd 2); simp [kd])
    | 16, ho => cases ho; exact absurd (List.mem_of_getElem? hq) (by show ¬ (_ ∈ kd 2); simp [kd])
    | 17, ho => cases ho; exact absurd (List.mem_of_getElem? hq) (by show ¬ (_ ∈ kd 2); simp [kd])
    | 18, ho => cases ho; exact absurd (List.mem_of_getElem? hq) (by show ¬ (_ ∈ kd 2); simp [kd])
    | n + 19, ho => exact nomatch (show (none : Option Nat) = some ci from ho)
  · have ho : shCL[o]? = some ci := ho
    match o, ho with
    | 0, ho =>
      cases ho
      match k, hq with
      | 0, hq => simp [kd] at hq
      | 1, hq => simp [kd] at hq
      | 2, hq => simp [kd] at hq
      | 3, hq => simp [kd] at hq
      | 4, hq => simp [kd] at hq
      | 5, hq => cases hq; rcases (show i = 0 ∨ i = 1 by omega) with rfl | rfl <;> rfl
      | 6, hq => simp [kd] at hq
      | 7, hq => simp [kd] at hq
      | 8, hq => simp [kd] at hq
      | 9, hq => simp [kd] at hq
      | 10, hq => simp [kd] at hq
      | 11, hq => simp [kd] at hq
      | 12, hq => simp [kd] at hq
      | 13, hq => simp [kd] at hq
      | n + 14, hq => exact nomatch (show (none : Option (Nat × Nat)) = some _ from hq)
    | 1, ho => cases ho; exact absurd (List.mem_of_getElem? hq) (by show ¬ (_ ∈ kd 4); simp [kd])
    | 2, ho => cases ho; exact absurd (List.mem_of_getElem? hq) (by show ¬ (_ ∈ kd 1); simp [kd])
    | 3, ho => cases ho; exact absurd (List.mem_of_getElem? hq) (by show ¬ (_ ∈ kd 1); simp [kd])
    | 4, ho => cases ho; exact absurd (List.mem_of_getElem? hq) (by show ¬ (_ ∈ kd 2); simp [kd])
    | 5, ho =>
      cases ho
      match k, hq with
      | 0, hq => simp [kd] at hq
      | 1, hq => simp [kd] at hq
      | 2, hq => cases hq; rcases (show i = 0 ∨ i = 1 ∨ i = 2 ∨ i = 3 ∨ i = 4 ∨ i = 5 ∨ i = 6 ∨ i = 7 ∨ i = 8 ∨ i = 9 by omega) with rfl | rfl | rfl | rfl | rfl | rfl | rfl | rfl | rfl | rfl <;> rfl
      | n + 3, hq => exact nomatch (show (none : Option (Nat × Nat)) = some _ from hq)
    | 6, ho => cases ho; exact absurd (List.mem_of_getElem? hq) (by show ¬ (_ ∈ kd 3); simp [kd])
    | 7, ho => cases ho; exact absurd (List.mem_of_getElem? hq) (by show ¬ (_ ∈ kd 2); simp [kd])
    | 8, ho => cases ho; exact absurd (List.mem_of_getElem? hq) (by show ¬ (_ ∈ kd 2); simp [kd])
    | 9, ho => cases ho; exact absurd (List.mem_of_getElem? hq) (by show ¬ (_ ∈ kd 2); simp [kd])
    | 10, ho => cases ho; exact absurd (List.mem_of_getElem? hq) (by show ¬ (_ ∈ kd 2); simp [kd])
    | 11, ho => cases ho; exact absurd (List.mem_of_getElem? hq) (by show ¬ (_ ∈ kd 2); simp [kd])
    | 12, ho => cases ho; exact absurd (List.mem_of_getElem? hq) (by show ¬ (_ ∈ kd 2); simp [kd])
    | 13, ho => cases ho; exact absurd (List.mem_of_getElem? hq) (by show ¬ (_ ∈ kd 2); simp [kd])
    | 14, ho => cases ho; exact absurd (List.mem_of_getElem? hq) (by show ¬ (_ ∈ kd 2); simp [kd])
    | 15, ho => cases ho; exact absurd (List.mem_of_getElem? hq) (by show ¬ (_ ∈ kd 2); simp [kd])
    | 16, ho => cases ho; exact absurd (List.mem_of_getElem? hq) (by show ¬ (_ ∈ kd 2); simp [kd])
    | 17, ho => cases ho; exact absurd (List.mem_of_getElem? hq) (by show ¬ (_ ∈ kd 2); simp [kd])
    | 18, ho => cases ho; exact absurd (List.mem_of_getElem? hq) (by show ¬ (_ ∈ kd 2); simp [kd])
    | n + 19, ho => exact nomatch (show (none : Option Nat) = some ci from ho)
/-- M: objects 0: SmokedLettersModel -/
def shML : List Nat := [6]
def shM : Nat → Option Nat := fun o => shML[o]?
def ofML : List (List Nat) := [[0, 0, 0, 0, 0, 1, 0, 2, 3, 4, 0, 5, 6, 0, 0, 7, 8, 0, 9, 0, 0, 0, 0, 0, 0, 0, 10, 0, 11, 12, 0, 13, 14, 15, 16, 17, 18, 19, 0, 20]]
def ofM (o j : Nat) : Nat := (ofML.getD o []).getD j 0
def iIML : List (List Int32) := [[10, 2, 1, 0, 0, 0, 0, 0, 0, 0, 0, 0, 0, 0, 0, 0, 0, 0, 0, 0, 0, 0, 0, 0, 0, 0, 0, 0, 0, 0, 0, 0, 0, 0, 0, 0, 0, 0, 0]]
def iPML : List (List Nat) := [[0, 0, 0, 0, 0, 0, 0, 0, 0, 0, 0, 0, 0, 0, 0, 0, 0, 0, 0, 0, 0, 0, 0, 0, 0, 0, 0, 0, 0, 0, 0, 0, 0, 0, 0, 0, 0, 0, 0]]
def σM0 : Mem := (fun o k => (iIML.getD o []).getD k 0, fun _ _ => 0, fun o k => (iPML.getD o []).getD k 0, fun o k => if o = 0 ∧ k = 7 then (upd (upd (upd (upd (upd (upd (fun _ => 0) 2 (-9)) 3 (-9)) 4 (-9)) 5 (-9)) 6 (-9)) 7 (-9)) else (fun _ => 0), fun _ _ _ => 0, fun o k i => 0)
def GM (D : va_G) (ca : Nat → ClassId) (base : Nat) : gG := (D, ca, shM, fun o j => base + ofM o j, fun q => base ≤ q ∧ q < base + 21)
def kyM : List (Nat × Nat) := ((List.range 1).flatMap fun o => (List.range 40).map fun j => (o, j)).filter fun x => gvb shM x.1 x.2
theorem kyM_a : kyM.all (fun x => kyM.all (fun y => decide (ofM x.1 x.2 ≠ ofM y.1 y.2) || decide (x = y))) = true := by decide +kernel
theorem kyM_b : kyM.all (fun x => decide (ofM x.1 x.2 < 21)) = true := by decide +kernel
theorem kyM_in {D : va_G} {ca : Nat → ClassId} {base o j : Nat} (h : gv (GM D ca base) o j) : (o, j) ∈ kyM := by
  have hb := gv_b h
  have hb : gvb shM o j = true := hb
  have ho : o < 1 := by
    rcases Nat.lt_or_ge o 1 with q | q
    · exact q
    · have : shM o = none := List.getElem?_eq_none (by show shML.length ≤ o; exact q)
      unfold gvb at hb
      rw [this] at hb
      cases hb
  have hj : j < 40 := by
    obtain ⟨ci, h1, h2⟩ := h
    have h1 : shM o = some ci := h1
    rcases h2 with rfl | ⟨k, q, rfl, h3, -⟩
    · decide
    · have hl : ∀ x ∈ shML, (kd x).length < 40 := by decide
      have := hl ci (List.mem_of_getElem? h1)
      have := (List.getElem?_eq_some_iff.mp h3).1
      omega
  unfold kyM
  simp only [List.mem_filter, List.mem_flatMap, List.mem_range, List.mem_map]
  exact ⟨⟨o, ho, j, hj, rfl⟩, hb⟩
theorem gDM (D : va_G) (ca : Nat → ClassId) (base : Nat) : gD (GM D ca base) := by
  refine ⟨fun o j o' j' h h' he => ?_, fun o j h => ?_⟩
  · have h1 := List.all_eq_true.mp (List.all_eq_true.mp kyM_a _ (kyM_in h)) _ (kyM_in h')
    have he : base + ofM o j = base + ofM o' j' := he
    simp only [Bool.or_eq_true, decide_eq_true_eq] at h1
    rcases h1 with h1 | h1
    · exact absurd (Nat.add_left_cancel he) h1
    · exact Prod.mk.inj h1
  · have h1 := List.all_eq_true.mp kyM_b _ (kyM_in h)
    simp only [decide_eq_true_eq] at h1
    exact ⟨Nat.le_add_right _ _, Nat.add_lt_add_left h1 _⟩
set_option maxRecDepth 100000 in
set_option maxHeartbeats 4000000 in
theorem gHM0 {D : va_G} {ca : Nat → ClassId} {base : Nat} {H : Heap} (hP : va_P D vwCl [(base, .inr (6, [.int 10, .int 2, .int 1, .int 0, .ref (base + 1), .int 0, .ref (base + 2), .ref (base + 3), .ref (base + 4), .int 0, .ref (base + 5), .ref (base + 6), .int 0, .int 0, .ref (base + 7), .ref (base + 8), .long 0, .ref (base + 9), .int 0, .int 0, .int 0, .int 0, .int 0, .int 0, .int 0, .ref (base + 10), .int 0, .ref (base + 11), .ref (base + 12), .int 0, .ref (base + 13), .ref (base + 14), .ref (base + 15), .ref (base + 16), .ref (base + 17), .ref (base + 18), .ref (base + 19), .int 0, .ref (base + 20)])), ((base + 1), .inl (ca 4, 12, .inl (fun _ => 0))), ((base + 2), .inl (ca 4, 12, .inl (fun _ => 0))), ((base + 3), .inl (ca 4, 26, .inl (upd (upd (upd (upd (upd (upd (fun _ => 0) 2 (-9)) 3 (-9)) 4 (-9)) 5 (-9)) 6 (-9)) 7 (-9)))), ((base + 4), .inl (ca 4, 260, .inl (fun _ => 0))), ((base + 5), .inl (ca 4, 52, .inl (fun _ => 0))), ((base + 6), .inl (ca 5, 2, .inl (fun _ => 0))), ((base + 7), .inl (ca 4, 4, .inl (fun _ => 0))), ((base + 8), .inl (ca 4, 20, .inl (fun _ => 0))), ((base + 9), .inl (ca 4, 200, .inl (fun _ => 0))), ((base + 10), .inl (ca 4, 12, .inl (fun _ => 0))), ((base + 11), .inl (ca 4, 12, .inl (fun _ => 0))), ((base + 12), .inl (ca 4, 3, .inl (fun _ => 0))), ((base + 13), .inl (ca 4, 6, .inl (fun _ => 0))), ((base + 14), .inl (ca 4, 6, .inl (fun _ => 0))), ((base + 15), .inl (ca 4, 6, .inl (fun _ => 0))), ((base + 16), .inl (ca 4, 6, .inl (fun _ => 0))), ((base + 17), .inl (ca 6, 7, .inr (.inl (fun _ => 0)))), ((base + 18), .inl (ca 4, 5, .inl (fun _ => 0))), ((base + 19), .inl (ca 4, 5, .inl (fun _ => 0))), ((base + 20), .inl (ca 4, 4, .inl (fun _ => 0)))] H) : gH (GM D ca base) σM0 H := by
  refine ⟨fun o ci ho => ?_, fun o ci k q ho hq h4 => ?_, fun o ci k c' ho hq => ?_, fun o ci k n i ho hq hi => ?_⟩
  · have ho : shML[o]? = some ci := ho
    match o, ho with
    | 0, ho => cases ho; exact ob_of hP 0 rfl (N := 39) rfl (fun j hj => by rcases (show j = 0 ∨ j = 1 ∨ j = 2 ∨ j = 3 ∨ j = 4 ∨ j = 5 ∨ j = 6 ∨ j = 7 ∨ j = 8 ∨ j = 9 ∨ j = 10 ∨ j = 11 ∨ j = 12 ∨ j = 13 ∨ j = 14 ∨ j = 15 ∨ j = 16 ∨ j = 17 ∨ j = 18 ∨ j = 19 ∨ j = 20 ∨ j = 21 ∨ j = 22 ∨ j = 23 ∨ j = 24 ∨ j = 25 ∨ j = 26 ∨ j = 27 ∨ j = 28 ∨ j = 29 ∨ j = 30 ∨ j = 31 ∨ j = 32 ∨ j = 33 ∨ j = 34 ∨ j = 35 ∨ j = 36 ∨ j = 37 ∨ j = 38 by omega) with rfl | rfl | rfl | rfl | rfl | rfl | rfl | rfl | rfl | rfl | rfl | rfl | rfl | rfl | rfl | rfl | rfl | rfl | rfl | rfl | rfl | rfl | rfl | rfl | rfl | rfl | rfl | rfl | rfl | rfl | rfl | rfl | rfl | rfl | rfl | rfl | rfl | rfl | rfl <;> rfl)
    | n + 1, ho => exact nomatch (show (none : Option Nat) = some ci from ho)
  · have ho : shML[o]? = some ci := ho
    match o, ho with
    | 0, ho =>
      cases ho
      match k, hq with
      | 0, hq => cases hq; exact absurd h4 (by decide)
      | 1, hq => cases hq; exact absurd h4 (by decide)
      | 2, hq => cases hq; exact absurd h4 (by decide)
      | 3, hq => cases hq; exact absurd h4 (by decide)
      | 4, hq => cases hq; exact hP 1 _ rfl
      | 5, hq => cases hq; exact absurd h4 (by decide)
      | 6, hq => cases hq; exact hP 2 _ rfl
      | 7, hq => cases hq; exact hP 3 _ rfl
      | 8, hq => cases hq; exact hP 4 _ rfl
      | 9, hq => cases hq; exact absurd h4 (by decide)
      | 10, hq => cases hq; exact hP 5 _ rfl
      | 11, hq => cases hq; exact hP 6 _ rfl
      | 12, hq => cases hq; exact absurd h4 (by decide)
      | 13, hq => cases hq; exact absurd h4 (by decide)
      | 14, hq => cases hq; exact hP 7 _ rfl
      | 15, hq => cases hq; exact hP 8 _ rfl
      | 16, hq => cases hq; exact absurd h4 (by decide)
      | 17, hq => cases hq; exact hP 9 _ rfl
      | 18, hq => cases hq; exact absurd h4 (by decide)
      | 19, hq => cases hq; exact absurd h4 (by decide)
      | 20, hq => cases hq; exact absurd h4 (by decide)
      | 21, hq => cases hq; exact absurd h4 (by decide)
      | 22, hq => cases hq; exact absurd h4 (by decide)
      | 23, hq => cases hq; exact absurd h4 (by decide)
      | 24, hq => cases hq; exact absurd h4 (by decide)
      | 25, hq => cases hq; exact hP 10 _ rfl
      | 26, hq => cases hq; exact absurd h4 (by decide)
      | 27, hq => cases hq; exact hP 11 _ rfl
      | 28, hq => cases hq; exact hP 12 _ rfl
      | 29, hq => cases hq; exact absurd h4 (by decide)
      | 30, hq => cases hq; exact hP 13 _ rfl
      | 31, hq => cases hq; exact hP 14 _ rfl
      | 32, hq => cases hq; exact hP 15 _ rfl
      | 33, hq => cases hq; exact hP 16 _ rfl
      | 34, hq => cases hq; exact hP 17 _ rfl
      | 35, hq => cases hq; exact hP 18 _ rfl
      | 36, hq => cases hq; exact hP 19 _ rfl
      | 37, hq => cases hq; exact absurd h4 (by decide)
      | 38, hq => cases hq; exact hP 20 _ rfl
      | n + 39, hq => exact nomatch (show (none : Option (Nat × Nat)) = some q from hq)
    | n + 1, ho => exact nomatch (show (none : Option Nat) = some ci from ho)
  · have ho : shML[o]? = some ci := ho
    match o, ho with
    | 0, ho => cases ho; exact absurd (List.mem_of_getElem? hq) (by show ¬ (_ ∈ kd 6); simp [kd])
    | n + 1, ho => exact nomatch (show (none : Option Nat) = some ci from ho)
  · have ho : shML[o]? = some ci := ho
    match o, ho with
    | 0, ho => cases ho; exact absurd (List.mem_of_getElem? hq) (by show ¬ (_ ∈ kd 6); simp [kd])
    | n + 1, ho => exact nomatch (show (none : Option Nat) = some ci from ho)
