theorem gH.kept {G2 : gG} {τ : Mem} {H H1 : Heap} (hD : gD G2) (h : gH G2 τ H) (hk : ∀ q, q < H.size → gAA G2 q → H1[q]? = H[q]?) : gH G2 τ H1 := by
  refine ⟨fun o ci ho => ?_, fun o ci k q ho hq h4 => ?_, h.2.2.1, h.2.2.2⟩
  · obtain ⟨r, h1, h2⟩ := h.1 o ci ho
    refine ⟨r, h1, h2.kept (hk _ ?_ (hD.2 o 0 (gv_o ho)))⟩
    obtain ⟨cell, h3, -⟩ := h2
    exact (Array.getElem?_eq_some_iff.mp h3).1
  · have h2 := h.2.1 o ci k q ho hq h4
    rw [hk _ (Array.getElem?_eq_some_iff.mp h2).1 (hD.2 o (k + 1) (gv_a ho hq h4))]
    exact h2
section GL
variable {p : Program} {l : Launch} {e : Env} {R : Room} {s : State} {m : MethodId} {args : Array Value} {below : List Frame} {meth : Method} {c : Code} {H : Heap} {locs : List Loc} {cells slots : Nat} {Q : State → Prop}
variable {y : MethodName} {cc : ByteArray} {nL : Nat} {ry : Option FieldType} {own : String} {G G2 : gG} {σ τ : Mem} {pc : Nat} {ls : Array Slot} {rest : List Value} {H0 : Heap} {A0 : Nat → Prop}
theorem gl_ret {σ' : Mem} {ov : Option Value} {a : Array Value} {st0 : List Value} (hr : va_Run p l e R s m args below meth c H locs cells slots 0 0 (F0 m pc ls st0) rest (cQ G ov σ' a) (gAA G)) (hS : va_S A0 H0 H locs) (hAA : ∀ q, gAA G q → A0 q) (hD2 : gD G2) (h2 : gH G2 τ H) (hdis : ∀ q, gAA G2 q → ¬ gAA G q)
    (kk : ∀ (H1 : Heap) (locs1 : List Loc), gH G σ' H1 → gH G2 τ H1 → va_S A0 H0 H1 locs1 → W p l e R s m args below meth c H1 locs1 cells slots Q (F0 m (pc + 3) ls (ov.toList ++ rest))) : W p l e R s m args below meth c H locs cells slots Q (F0 m pc ls st0) := by
  intro T hT X
  obtain ⟨v, st₀, t, T', L, h0, X', hL, e1, e2, ⟨hv, hb, hz, hk⟩, st⟩ := hr T hT X
  cases hv
  rw [h0] at hz hk
  obtain ⟨t2, a1, b1⟩ := kk T'.heap (locs ++ L) (by rw [e1]; exact hb) (gH.kept hD2 h2 (fun q h1 h3 => by rw [e1]; exact hk q h1 (hdis q h3)))
    ⟨Nat.le_trans hS.1 (by rw [e1]; exact hz), fun q h1 h2 => by rw [e1, hk q (Nat.lt_of_lt_of_le h1 hS.1) (fun z => h2 (hAA q z))]; exact hS.2.1 q h1 h2, fun q hq => by
      rcases List.mem_append.mp hq with h | h
      · exact hS.2.2 q h
      · exact hAA _ (hL q h)⟩ T' rfl X'
  exact ⟨t2, st t2 a1, b1⟩
theorem gl_callI (X : gX p s m args meth c y cc nL ry own G) {y2 : MethodName} {c2 : ByteArray} {n2 : Nat} {r2 : Option FieldType} {fr lo idx na ci o : Nat} {As : List Value} {r : Int32} {σ' : Mem} (hM : CM l y2 c2 n2 r2 fr lo G σ (.ref (gad G o 0) :: As) (some (.int r)) σ') {C : String} {T : u_T} {N : Nat} (hc : vwCl[ci]? = some (C, T, N)) (ho : gsh G o = some ci)
    (hw : Cond.code y2 c2 n2 r2 ∈ LW ∧ Cond.methodLink own idx y2 ∈ LW ∧ Cond.instanceMethod y2 ∈ LW ∧ Cond.selects C y2 y2 ∈ LW ∧ Cond.initialized C ∈ LW) (hd : y2.cls = C ∧ y2.cls ≠ "java/lang/invoke/MethodHandle" ∧ y2.cls ≠ "java/lang/invoke/VarHandle" ∧ (parseMethodDescriptor y2.desc).map (fun d => d.parameters.length) = some na) (hR : fr + 1 ≤ R.frames ∧ 8 + (n2 + 11) + lo ≤ R.locals) (hH : gH G σ H) (hS : va_S A0 H0 H locs) (hAA : ∀ q, gAA G q → A0 q) (hD2 : gD G2) (h2 : gH G2 τ H) (hdis : ∀ q, gAA G2 q → ¬ gAA G q) {lv : List (Nat × Value)} (hl : lv_has ls nL lv) {st0 : List Value} (hst : st0 = As.reverse ++ .ref (gad G o 0) :: rest) (hn : As.length = na) (hrm : (rest.map fun v => v.category).sum ≤ 8) (hf : cells ≤ R.cells ∧ slots ≤ R.slots) (hdg : decode cc pc = .ok (.invokevirtual idx, 3))
    (kk : ∀ (H1 : Heap) (locs1 : List Loc), gH G σ' H1 → gH G2 τ H1 → va_S A0 H0 H1 locs1 → W p l e R s m args below meth c H1 locs1 cells slots Q (F0 m (pc + 3) ls (.int r :: rest))) : W p l e R s m args below meth c H locs cells slots Q (F0 m pc ls st0) :=
  gl_ret (va_runV (As := As) (rest := rest) (b := gad G o 0) ⟨X.hx, X.hb, X.hml, X.hown, X.hts⟩ hM (cwV na X.hts (wm_goodV hw.1 hw.2.1 hw.2.2.1 hw.2.2.2.1 hw.2.2.2.2) rfl rfl rfl hd hR) ⟨cP.blind G σ _, g_recv X hH ho hc, g_pre X hH _⟩ rfl hn hl.1 hst (lv_room hrm) hdg hf) hS hAA hD2 h2 hdis kk
theorem gl_callL (X : gX p s m args meth c y cc nL ry own G) {y2 : MethodName} {c2 : ByteArray} {n2 : Nat} {r2 : Option FieldType} {fr lo idx na ci o : Nat} {As : List Value} {r : Int64} {σ' : Mem} (hM : CM l y2 c2 n2 r2 fr lo G σ (.ref (gad G o 0) :: As) (some (.long r)) σ') {C : String} {T : u_T} {N : Nat} (hc : vwCl[ci]? = some (C, T, N)) (ho : gsh G o = some ci)
    (hw : Cond.code y2 c2 n2 r2 ∈ LW ∧ Cond.methodLink own idx y2 ∈ LW ∧ Cond.instanceMethod y2 ∈ LW ∧ Cond.selects C y2 y2 ∈ LW ∧ Cond.initialized C ∈ LW) (hd : y2.cls = C ∧ y2.cls ≠ "java/lang/invoke/MethodHandle" ∧ y2.cls ≠ "java/lang/invoke/VarHandle" ∧ (parseMethodDescriptor y2.desc).map (fun d => d.parameters.length) = some na) (hR : fr + 1 ≤ R.frames ∧ 8 + (n2 + 11) + lo ≤ R.locals) (hH : gH G σ H) (hS : va_S A0 H0 H locs) (hAA : ∀ q, gAA G q → A0 q) (hD2 : gD G2) (h2 : gH G2 τ H) (hdis : ∀ q, gAA G2 q → ¬ gAA G q) {lv : List (Nat × Value)} (hl : lv_has ls nL lv) {st0 : List Value} (hst : st0 = As.reverse ++ .ref (gad G o 0) :: rest) (hn : As.length = na) (hrm : (rest.map fun v => v.category).sum ≤ 8) (hf : cells ≤ R.cells ∧ slots ≤ R.slots) (hdg : decode cc pc = .ok (.invokevirtual idx, 3))
    (kk : ∀ (H1 : Heap) (locs1 : List Loc), gH G σ' H1 → gH G2 τ H1 → va_S A0 H0 H1 locs1 → W p l e R s m args below meth c H1 locs1 cells slots Q (F0 m (pc + 3) ls (.long r :: rest))) : W p l e R s m args below meth c H locs cells slots Q (F0 m pc ls st0) :=
  gl_ret (va_runV (As := As) (rest := rest) (b := gad G o 0) ⟨X.hx, X.hb, X.hml, X.hown, X.hts⟩ hM (cwV na X.hts (wm_goodV hw.1 hw.2.1 hw.2.2.1 hw.2.2.2.1 hw.2.2.2.2) rfl rfl rfl hd hR) ⟨cP.blind G σ _, g_recv X hH ho hc, g_pre X hH _⟩ rfl hn hl.1 hst (lv_room hrm) hdg hf) hS hAA hD2 h2 hdis kk
end GL
theorem nI_2 (i : Nat) : nI i + 2 = nI (i + 2) := nI_add i 2
theorem nI_3 (i : Nat) : nI i + 3 = nI (i + 3) := nI_add i 3
theorem nI_4 (i : Nat) : nI i + 4 = nI (i + 4) := nI_add i 4
