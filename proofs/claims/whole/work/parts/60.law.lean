/-! THE CLAIM OUT OF ONE WALK OF THE LAW'S BODY. Your part is whole_start (and what it stands on); all else here is the same for every law, but numbers. -/
def R_law : String := "SmokedLettersLaw"
def lw_P (b : Addr) (xs : List Int32) (args : Array Value) (s : State) : Prop := args = #[.ref b] ∧ s.IntsAt b xs ∧ xs.length ≤ 256 ∧ (Jvm.Cond.and given_1 narrow_1).before args s = true
def lw_Q (_ : Array Value) (s : State) (o : Outcome) (t : State) : Prop := o = .returned (some (.int 1)) ∧ Framed s o t [] 600000 7302250
def lw_Z (below : List Frame) (a : Array Value) (s : State) : State → Prop := fun t => ∃ o, t.status = .running ∧ Ended t below o ∧ lw_Q a s o t
/-- the law's own end, with 1 on the stack, nothing written that was there before, its room as the claim has it -/
theorem lw_ret {p : Program} {l : Launch} {e : Env} {s : State} {m : MethodId} {below : List Frame} {meth : Method} {c : Code} {b : Nat} (hx : p.tables.exec = Jvm.exec) (hb : c.code = code) (hr : meth.sig.returnType = ret) (hlocks : meth.locks = false) {pc : Nat} {H : Heap} {ls : Array Slot} (hdg : decode code pc = .ok (.ireturn, 1)) : W p l e room_1 s m #[Value.ref b] below meth c H [] 600000 7302250 (lw_Z below #[Value.ref b] s) (F0 m pc ls [.int 1]) := by
  intro T hT X
  obtain ⟨fs, hret, hrun, hended, hW, hframe⟩ := X.leave (v := some (.int 1)) (hlocks := hlocks) (fun h => by rw [hr] at h; cases h)
  have hmeth' : T.vm.method? m = some meth := X.method'
  refine ⟨T.setFrames fs, ?_, .returned (some (.int 1)), hrun, hended, rfl, ⟨_, rfl⟩, hW, hframe⟩
  jvm_step X.here [X.here.top, hx, hb, hdg, hmeth', hr, ret, narrow_b1]
  (try refine ⟨rfl, ?_⟩); (try refine ⟨rfl, ?_⟩)
  first | (intro acts; rw [hret _ acts rfl rfl rfl]) | rw [hret _ _ rfl rfl rfl]
  exact Steps.refl _
/-- what holds at the law's entry: the machine, the code, the tables' words (any of lw_tbl by 'hts w (by decide +kernel)'), the script of L ints xs at the cell b, what the Statement gives of the start (any of its parts by flat_of_before) -/
def lw_At (p : Program) (s : State) (m : MethodId) (meth : Method) (c : Code) (b L : Nat) (xs : Nat → Int32) : Prop :=
  p.tables.exec = Jvm.exec ∧ c.code = code ∧ meth.sig.returnType = ret ∧ c.maxLocals = 4 ∧ s.vm.findClass R_law = some m.cls ∧ (∀ w ∈ lw_tbl, w.before #[Value.ref b] s = true) ∧ va_X b L xs s s.heap ∧ b < s.heap.size ∧ meth.locks = false ∧ (Jvm.Cond.and given_1 narrow_1).before #[Value.ref b] s = true ∧ (Jvm.Cond.code x code maxLocals ret).before #[Value.ref b] s = true

theorem lg_cmp_self (x : Int64) : lg_cmp x x = 0 := by
  unfold lg_cmp
  simp
abbrev lwX (p : Program) (s : State) (m : MethodId) (meth : Method) (c : Code) (b : Nat) (G : gG) : Prop := gX p s m #[Value.ref b] meth c x code 4 ret RL G
def lwS (p : Program) (s : State) (m : MethodId) (meth : Method) (c : Code) (b L : Nat) (xs : Nat → Int32) (D : va_G) (ca : Nat → ClassId) : Prop := lwX p s m meth c b (GC D ca s.heap.size) ∧ lwX p s m meth c b (GM D ca (s.heap.size + 69)) ∧ va_X b L xs s s.heap ∧ b < s.heap.size ∧ L ≤ 256
theorem lw_dCM {D : va_G} {ca : Nat → ClassId} {n : Nat} : ∀ q, gAA (GM D ca (n + 69)) q → ¬ gAA (GC D ca n) q := fun q h h2 => by
  have h : n + 69 ≤ q ∧ _ := h
  have h2 : n ≤ q ∧ q < n + 69 := h2
  omega
theorem lw_dMC {D : va_G} {ca : Nat → ClassId} {n : Nat} : ∀ q, gAA (GC D ca n) q → ¬ gAA (GM D ca (n + 69)) q := fun q h h2 => lw_dCM q h2 h
theorem lw_aC {D : va_G} {ca : Nat → ClassId} {n : Nat} : ∀ q, gAA (GC D ca n) q → n ≤ q := fun q h => h.1
theorem lw_aM {D : va_G} {ca : Nat → ClassId} {n : Nat} : ∀ q, gAA (GM D ca (n + 69)) q → n ≤ q := fun q h => Nat.le_trans (Nat.le_add_right _ _) h.1
set_option maxHeartbeats 4000000 in
set_option maxRecDepth 100000 in
theorem lw_case0 {p : Program} {l : Launch} {e : Env} {s : State} {m : MethodId} {below : List Frame} {meth : Method} {c : Code} {b L : Nat} {xs : Nat → Int32} {D : va_G} {ca : Nat → ClassId} (S0 : lwS p s m meth c b L xs D ca) {i : Nat} {x3 : Int32} (hi4 : i + 4 ≤ L) (ex : x3 = nI i) {σ τ : Mem} (hR : Rel σ τ) {H : Heap} {locs : List Loc} (hC : gH (GC D ca s.heap.size) σ H) (hM : gH (GM D ca (s.heap.size + 69)) τ H) (hS : va_S (fun q : Nat => s.heap.size ≤ q) s.heap H locs) {ls : Array Slot} (hl : lv_has ls 4 [(0, .ref b), (1, .ref (gad (GC D ca s.heap.size) 0 0)), (2, .ref (gad (GM D ca (s.heap.size + 69)) 0 0)), (3, .int x3)])
    (kk : ∀ (σ τ : Mem), Rel σ τ → ∀ (H : Heap) (locs : List Loc), gH (GC D ca s.heap.size) σ H → gH (GM D ca (s.heap.size + 69)) τ H → va_S (fun q : Nat => s.heap.size ≤ q) s.heap H locs → W p l e room_1 s m #[Value.ref b] below meth c H locs 600000 7302250 (lw_Z below #[Value.ref b] s) (F0 m 955 ls [])) : W p l e room_1 s m #[Value.ref b] below meth c H locs 600000 7302250 (lw_Z below #[Value.ref b] s) (F0 m 176 ls []) := by
  obtain ⟨XC, XM, hX, hbl, hL⟩ := S0
  have hbA : ¬ (fun q : Nat => s.heap.size ≤ q) b := Nat.not_le.mpr hbl
  have hi1 : vp_in (x3 + 1) L := by rw [ex, nI_1]; exact vp_in_nI (by omega) (by omega)
  obtain ⟨r, σ', τ', e1, e2, hR⟩ := op_type hR (xs (x3 + 1).toNatClampNeg)
  refine lv_aload_n XC.hx XC.hb dL_law_176 rfl (lv_at hl 1 rfl) ?_
  refine lv_aload_n XC.hx XC.hb dL_law_177 rfl (lv_at hl 0 rfl) ?_
  refine lv_iload_n XC.hx XC.hb dL_law_178 rfl (lv_at hl 3 rfl) ?_
  refine lv_iconst (v := 1) XC.hx XC.hb dL_law_179 (by decide) ?_
  refine lv_iadd XC.hx XC.hb dL_law_180 ?_
  refine va_sld XC.hx XC.hb hX hbl hbA hS hi1 dL_law_181 ?_
  refine gl_callI (As := [.int (xs (x3 + 1).toNatClampNeg)]) (rest := []) XC (kX5_type l (o := 0) rfl e1) (C := RX5) (T := TX5) (N := 14) (ci := 5) rfl rfl ⟨cdX5_type, mlL_13, imX5_type, seX5_type, iniX5⟩ hvX5_type ⟨Nat.le_of_ble_eq_true rfl, Nat.le_of_ble_eq_true rfl⟩ hC hS lw_aC XM.hD hM lw_dCM hl rfl rfl (Nat.le_of_ble_eq_true rfl) ⟨Nat.le_refl _, Nat.le_refl _⟩ dL_law_182 (fun H locs hC hM hS => ?_)
  refine lv_aload_n XC.hx XC.hb dL_law_185 rfl (lv_at hl 2 rfl) ?_
  refine lv_aload_n XC.hx XC.hb dL_law_186 rfl (lv_at hl 0 rfl) ?_
  refine lv_iload_n XC.hx XC.hb dL_law_187 rfl (lv_at hl 3 rfl) ?_
  refine lv_iconst (v := 1) XC.hx XC.hb dL_law_188 (by decide) ?_
  refine lv_iadd XC.hx XC.hb dL_law_189 ?_
  refine va_sld XC.hx XC.hb hX hbl hbA hS hi1 dL_law_190 ?_
  refine gl_callI (As := [.int (xs (x3 + 1).toNatClampNeg)]) (rest := [.int r]) XM (kX6_type l (o := 0) rfl e2) (C := RX6) (T := TX6) (N := 39) (ci := 6) rfl rfl ⟨cdX6_type, mlL_17, imX6_type, seX6_type, iniX6⟩ hvX6_type ⟨Nat.le_of_ble_eq_true rfl, Nat.le_of_ble_eq_true rfl⟩ hM hS lw_aM XC.hD hC lw_dMC hl rfl rfl (Nat.le_of_ble_eq_true rfl) ⟨Nat.le_refl _, Nat.le_refl _⟩ dL_law_191 (fun H locs hM hC hS => ?_)
  refine lv_icmp_eq (tgt := 955) XC.hx XC.hb dL_law_194 (by decide) (fun _ => ?_) (fun c_ => absurd (rfl) c_)
  exact kk σ' τ' hR _ _ hC hM hS
set_option maxHeartbeats 4000000 in
set_option maxRecDepth 100000 in
theorem lw_case1 {p : Program} {l : Launch} {e : Env} {s : State} {m : MethodId} {below : List Frame} {meth : Method} {c : Code} {b L : Nat} {xs : Nat → Int32} {D : va_G} {ca : Nat → ClassId} (S0 : lwS p s m meth c b L xs D ca) {i : Nat} {x3 : Int32} (hi4 : i + 4 ≤ L) (ex : x3 = nI i) {σ τ : Mem} (hR : Rel σ τ) {H : Heap} {locs : List Loc} (hC : gH (GC D ca s.heap.size) σ H) (hM : gH (GM D ca (s.heap.size + 69)) τ H) (hS : va_S (fun q : Nat => s.heap.size ≤ q) s.heap H locs) {ls : Array Slot} (hl : lv_has ls 4 [(0, .ref b), (1, .ref (gad (GC D ca s.heap.size) 0 0)), (2, .ref (gad (GM D ca (s.heap.size + 69)) 0 0)), (3, .int x3)])
    (kk : ∀ (σ τ : Mem), Rel σ τ → ∀ (H : Heap) (locs : List Loc), gH (GC D ca s.heap.size) σ H → gH (GM D ca (s.heap.size + 69)) τ H → va_S (fun q : Nat => s.heap.size ≤ q) s.heap H locs → W p l e room_1 s m #[Value.ref b] below meth c H locs 600000 7302250 (lw_Z below #[Value.ref b] s) (F0 m 955 ls [])) : W p l e room_1 s m #[Value.ref b] below meth c H locs 600000 7302250 (lw_Z below #[Value.ref b] s) (F0 m 199 ls []) := by
  obtain ⟨XC, XM, hX, hbl, hL⟩ := S0
  have hbA : ¬ (fun q : Nat => s.heap.size ≤ q) b := Nat.not_le.mpr hbl
  obtain ⟨r, σ', τ', e1, e2, hR⟩ := op_clear hR 
  refine lv_aload_n XC.hx XC.hb dL_law_199 rfl (lv_at hl 1 rfl) ?_
  refine gl_callI (As := []) (rest := []) XC (kX5_clear l (o := 0) rfl e1) (C := RX5) (T := TX5) (N := 14) (ci := 5) rfl rfl ⟨cdX5_clear, mlL_18, imX5_clear, seX5_clear, iniX5⟩ hvX5_clear ⟨Nat.le_of_ble_eq_true rfl, Nat.le_of_ble_eq_true rfl⟩ hC hS lw_aC XM.hD hM lw_dCM hl rfl rfl (Nat.le_of_ble_eq_true rfl) ⟨Nat.le_refl _, Nat.le_refl _⟩ dL_law_200 (fun H locs hC hM hS => ?_)
  refine lv_aload_n XC.hx XC.hb dL_law_203 rfl (lv_at hl 2 rfl) ?_
  refine gl_callI (As := []) (rest := [.int r]) XM (kX6_clear l (o := 0) rfl e2) (C := RX6) (T := TX6) (N := 39) (ci := 6) rfl rfl ⟨cdX6_clear, mlL_22, imX6_clear, seX6_clear, iniX6⟩ hvX6_clear ⟨Nat.le_of_ble_eq_true rfl, Nat.le_of_ble_eq_true rfl⟩ hM hS lw_aM XC.hD hC lw_dMC hl rfl rfl (Nat.le_of_ble_eq_true rfl) ⟨Nat.le_refl _, Nat.le_refl _⟩ dL_law_204 (fun H locs hM hC hS => ?_)
  refine lv_icmp_eq (tgt := 955) XC.hx XC.hb dL_law_207 (by decide) (fun _ => ?_) (fun c_ => absurd (rfl) c_)
  exact kk σ' τ' hR _ _ hC hM hS
set_option maxHeartbeats 4000000 in
set_option maxRecDepth 100000 in
theorem lw_case2 {p : Program} {l : Launch} {e : Env} {s : State} {m : MethodId} {below : List Frame} {meth : Method} {c : Code} {b L : Nat} {xs : Nat → Int32} {D : va_G} {ca : Nat → ClassId} (S0 : lwS p s m meth c b L xs D ca) {i : Nat} {x3 : Int32} (hi4 : i + 4 ≤ L) (ex : x3 = nI i) {σ τ : Mem} (hR : Rel σ τ) {H : Heap} {locs : List Loc} (hC : gH (GC D ca s.heap.size) σ H) (hM : gH (GM D ca (s.heap.size + 69)) τ H) (hS : va_S (fun q : Nat => s.heap.size ≤ q) s.heap H locs) {ls : Array Slot} (hl : lv_has ls 4 [(0, .ref b), (1, .ref (gad (GC D ca s.heap.size) 0 0)), (2, .ref (gad (GM D ca (s.heap.size + 69)) 0 0)), (3, .int x3)])
    (kk : ∀ (σ τ : Mem), Rel σ τ → ∀ (H : Heap) (locs : List Loc), gH (GC D ca s.heap.size) σ H → gH (GM D ca (s.heap.size + 69)) τ H → va_S (fun q : Nat => s.heap.size ≤ q) s.heap H locs → W p l e room_1 s m #[Value.ref b] below meth c H locs 600000 7302250 (lw_Z below #[Value.ref b] s) (F0 m 955 ls [])) : W p l e room_1 s m #[Value.ref b] below meth c H locs 600000 7302250 (lw_Z below #[Value.ref b] s) (F0 m 212 ls []) := by
  obtain ⟨XC, XM, hX, hbl, hL⟩ := S0
  have hbA : ¬ (fun q : Nat => s.heap.size ≤ q) b := Nat.not_le.mpr hbl
  obtain ⟨r, σ', τ', e1, e2, hR⟩ := op_island hR 
  refine lv_aload_n XC.hx XC.hb dL_law_212 rfl (lv_at hl 1 rfl) ?_
  refine gl_callI (As := []) (rest := []) XC (kX5_island l (o := 0) rfl e1) (C := RX5) (T := TX5) (N := 14) (ci := 5) rfl rfl ⟨cdX5_island, mlL_23, imX5_island, seX5_island, iniX5⟩ hvX5_island ⟨Nat.le_of_ble_eq_true rfl, Nat.le_of_ble_eq_true rfl⟩ hC hS lw_aC XM.hD hM lw_dCM hl rfl rfl (Nat.le_of_ble_eq_true rfl) ⟨Nat.le_refl _, Nat.le_refl _⟩ dL_law_213 (fun H locs hC hM hS => ?_)
  refine lv_aload_n XC.hx XC.hb dL_law_216 rfl (lv_at hl 2 rfl) ?_
  refine gl_callI (As := []) (rest := [.int r]) XM (kX6_island l (o := 0) rfl e2) (C := RX6) (T := TX6) (N := 39) (ci := 6) rfl rfl ⟨cdX6_island, mlL_26, imX6_island, seX6_island, iniX6⟩ hvX6_island ⟨Nat.le_of_ble_eq_true rfl, Nat.le_of_ble_eq_true rfl⟩ hM hS lw_aM XC.hD hC lw_dMC hl rfl rfl (Nat.le_of_ble_eq_true rfl) ⟨Nat.le_refl _, Nat.le_refl _⟩ dL_law_217 (fun H locs hM hC hS => ?_)
  refine lv_icmp_eq (tgt := 955) XC.hx XC.hb dL_law_220 (by decide) (fun _ => ?_) (fun c_ => absurd (rfl) c_)
  exact kk σ' τ' hR _ _ hC hM hS
set_option maxHeartbeats 4000000 in
set_option maxRecDepth 100000 in
theorem lw_case3 {p : Program} {l : Launch} {e : Env} {s : State} {m : MethodId} {below : List Frame} {meth : Method} {c : Code} {b L : Nat} {xs : Nat → Int32} {D : va_G} {ca : Nat → ClassId} (S0 : lwS p s m meth c b L xs D ca) {i : Nat} {x3 : Int32} (hi4 : i + 4 ≤ L) (ex : x3 = nI i) {σ τ : Mem} (hR : Rel σ τ) {H : Heap} {locs : List Loc} (hC : gH (GC D ca s.heap.size) σ H) (hM : gH (GM D ca (s.heap.size + 69)) τ H) (hS : va_S (fun q : Nat => s.heap.size ≤ q) s.heap H locs) {ls : Array Slot} (hl : lv_has ls 4 [(0, .ref b), (1, .ref (gad (GC D ca s.heap.size) 0 0)), (2, .ref (gad (GM D ca (s.heap.size + 69)) 0 0)), (3, .int x3)])
    (kk : ∀ (σ τ : Mem), Rel σ τ → ∀ (H : Heap) (locs : List Loc), gH (GC D ca s.heap.size) σ H → gH (GM D ca (s.heap.size + 69)) τ H → va_S (fun q : Nat => s.heap.size ≤ q) s.heap H locs → W p l e room_1 s m #[Value.ref b] below meth c H locs 600000 7302250 (lw_Z below #[Value.ref b] s) (F0 m 955 ls [])) : W p l e room_1 s m #[Value.ref b] below meth c H locs 600000 7302250 (lw_Z below #[Value.ref b] s) (F0 m 225 ls []) := by
  obtain ⟨XC, XM, hX, hbl, hL⟩ := S0
  have hbA : ¬ (fun q : Nat => s.heap.size ≤ q) b := Nat.not_le.mpr hbl
  have hi1 : vp_in (x3 + 1) L := by rw [ex, nI_1]; exact vp_in_nI (by omega) (by omega)
  have hi2 : vp_in (x3 + 2) L := by rw [ex, nI_2]; exact vp_in_nI (by omega) (by omega)
  obtain ⟨r, e1, e2⟩ := op_traveller hR (xs (x3 + 1).toNatClampNeg) (xs (x3 + 2).toNatClampNeg)
  refine lv_aload_n XC.hx XC.hb dL_law_225 rfl (lv_at hl 1 rfl) ?_
  refine lv_aload_n XC.hx XC.hb dL_law_226 rfl (lv_at hl 0 rfl) ?_
  refine lv_iload_n XC.hx XC.hb dL_law_227 rfl (lv_at hl 3 rfl) ?_
  refine lv_iconst (v := 1) XC.hx XC.hb dL_law_228 (by decide) ?_
  refine lv_iadd XC.hx XC.hb dL_law_229 ?_
  refine va_sld XC.hx XC.hb hX hbl hbA hS hi1 dL_law_230 ?_
  refine lv_aload_n XC.hx XC.hb dL_law_231 rfl (lv_at hl 0 rfl) ?_
  refine lv_iload_n XC.hx XC.hb dL_law_232 rfl (lv_at hl 3 rfl) ?_
  refine lv_iconst (v := 2) XC.hx XC.hb dL_law_233 (by decide) ?_
  refine lv_iadd XC.hx XC.hb dL_law_234 ?_
  refine va_sld XC.hx XC.hb hX hbl hbA hS hi2 dL_law_235 ?_
  refine gl_callI (As := [.int (xs (x3 + 1).toNatClampNeg), .int (xs (x3 + 2).toNatClampNeg)]) (rest := []) XC (kX5_traveller l (o := 0) rfl e1) (C := RX5) (T := TX5) (N := 14) (ci := 5) rfl rfl ⟨cdX5_traveller, mlL_27, imX5_traveller, seX5_traveller, iniX5⟩ hvX5_traveller ⟨Nat.le_of_ble_eq_true rfl, Nat.le_of_ble_eq_true rfl⟩ hC hS lw_aC XM.hD hM lw_dCM hl rfl rfl (Nat.le_of_ble_eq_true rfl) ⟨Nat.le_refl _, Nat.le_refl _⟩ dL_law_236 (fun H locs hC hM hS => ?_)
  refine lv_aload_n XC.hx XC.hb dL_law_239 rfl (lv_at hl 2 rfl) ?_
  refine lv_aload_n XC.hx XC.hb dL_law_240 rfl (lv_at hl 0 rfl) ?_
  refine lv_iload_n XC.hx XC.hb dL_law_241 rfl (lv_at hl 3 rfl) ?_
  refine lv_iconst (v := 1) XC.hx XC.hb dL_law_242 (by decide) ?_
  refine lv_iadd XC.hx XC.hb dL_law_243 ?_
  refine va_sld XC.hx XC.hb hX hbl hbA hS hi1 dL_law_244 ?_
  refine lv_aload_n XC.hx XC.hb dL_law_245 rfl (lv_at hl 0 rfl) ?_
  refine lv_iload_n XC.hx XC.hb dL_law_246 rfl (lv_at hl 3 rfl) ?_
  refine lv_iconst (v := 2) XC.hx XC.hb dL_law_247 (by decide) ?_
  refine lv_iadd XC.hx XC.hb dL_law_248 ?_
  refine va_sld XC.hx XC.hb hX hbl hbA hS hi2 dL_law_249 ?_
  refine gl_callI (As := [.int (xs (x3 + 1).toNatClampNeg), .int (xs (x3 + 2).toNatClampNeg)]) (rest := [.int r]) XM (kX6_traveller l (o := 0) rfl e2) (C := RX6) (T := TX6) (N := 39) (ci := 6) rfl rfl ⟨cdX6_traveller, mlL_31, imX6_traveller, seX6_traveller, iniX6⟩ hvX6_traveller ⟨Nat.le_of_ble_eq_true rfl, Nat.le_of_ble_eq_true rfl⟩ hM hS lw_aM XC.hD hC lw_dMC hl rfl rfl (Nat.le_of_ble_eq_true rfl) ⟨Nat.le_refl _, Nat.le_refl _⟩ dL_law_250 (fun H locs hM hC hS => ?_)
  refine lv_icmp_eq (tgt := 955) XC.hx XC.hb dL_law_253 (by decide) (fun _ => ?_) (fun c_ => absurd (rfl) c_)
  exact kk σ τ hR _ _ hC hM hS
set_option maxHeartbeats 4000000 in
set_option maxRecDepth 100000 in
theorem lw_case4 {p : Program} {l : Launch} {e : Env} {s : State} {m : MethodId} {below : List Frame} {meth : Method} {c : Code} {b L : Nat} {xs : Nat → Int32} {D : va_G} {ca : Nat → ClassId} (S0 : lwS p s m meth c b L xs D ca) {i : Nat} {x3 : Int32} (hi4 : i + 4 ≤ L) (ex : x3 = nI i) {σ τ : Mem} (hR : Rel σ τ) {H : Heap} {locs : List Loc} (hC : gH (GC D ca s.heap.size) σ H) (hM : gH (GM D ca (s.heap.size + 69)) τ H) (hS : va_S (fun q : Nat => s.heap.size ≤ q) s.heap H locs) {ls : Array Slot} (hl : lv_has ls 4 [(0, .ref b), (1, .ref (gad (GC D ca s.heap.size) 0 0)), (2, .ref (gad (GM D ca (s.heap.size + 69)) 0 0)), (3, .int x3)])
    (kk : ∀ (σ τ : Mem), Rel σ τ → ∀ (H : Heap) (locs : List Loc), gH (GC D ca s.heap.size) σ H → gH (GM D ca (s.heap.size + 69)) τ H → va_S (fun q : Nat => s.heap.size ≤ q) s.heap H locs → W p l e room_1 s m #[Value.ref b] below meth c H locs 600000 7302250 (lw_Z below #[Value.ref b] s) (F0 m 955 ls [])) : W p l e room_1 s m #[Value.ref b] below meth c H locs 600000 7302250 (lw_Z below #[Value.ref b] s) (F0 m 258 ls []) := by
  obtain ⟨XC, XM, hX, hbl, hL⟩ := S0
  have hbA : ¬ (fun q : Nat => s.heap.size ≤ q) b := Nat.not_le.mpr hbl
  have hi1 : vp_in (x3 + 1) L := by rw [ex, nI_1]; exact vp_in_nI (by omega) (by omega)
  have hi2 : vp_in (x3 + 2) L := by rw [ex, nI_2]; exact vp_in_nI (by omega) (by omega)
  obtain ⟨r, e1, e2⟩ := op_clerk hR (xs (x3 + 1).toNatClampNeg) (xs (x3 + 2).toNatClampNeg)
  refine lv_aload_n XC.hx XC.hb dL_law_258 rfl (lv_at hl 1 rfl) ?_
  refine lv_aload_n XC.hx XC.hb dL_law_259 rfl (lv_at hl 0 rfl) ?_
  refine lv_iload_n XC.hx XC.hb dL_law_260 rfl (lv_at hl 3 rfl) ?_
  refine lv_iconst (v := 1) XC.hx XC.hb dL_law_261 (by decide) ?_
  refine lv_iadd XC.hx XC.hb dL_law_262 ?_
  refine va_sld XC.hx XC.hb hX hbl hbA hS hi1 dL_law_263 ?_
  refine lv_aload_n XC.hx XC.hb dL_law_264 rfl (lv_at hl 0 rfl) ?_
  refine lv_iload_n XC.hx XC.hb dL_law_265 rfl (lv_at hl 3 rfl) ?_
  refine lv_iconst (v := 2) XC.hx XC.hb dL_law_266 (by decide) ?_
  refine lv_iadd XC.hx XC.hb dL_law_267 ?_
  refine va_sld XC.hx XC.hb hX hbl hbA hS hi2 dL_law_268 ?_
  refine gl_callI (As := [.int (xs (x3 + 1).toNatClampNeg), .int (xs (x3 + 2).toNatClampNeg)]) (rest := []) XC (kX5_clerk l (o := 0) rfl e1) (C := RX5) (T := TX5) (N := 14) (ci := 5) rfl rfl ⟨cdX5_clerk, mlL_32, imX5_clerk, seX5_clerk, iniX5⟩ hvX5_clerk ⟨Nat.le_of_ble_eq_true rfl, Nat.le_of_ble_eq_true rfl⟩ hC hS lw_aC XM.hD hM lw_dCM hl rfl rfl (Nat.le_of_ble_eq_true rfl) ⟨Nat.le_refl _, Nat.le_refl _⟩ dL_law_269 (fun H locs hC hM hS => ?_)
  refine lv_aload_n XC.hx XC.hb dL_law_272 rfl (lv_at hl 2 rfl) ?_
  refine lv_aload_n XC.hx XC.hb dL_law_273 rfl (lv_at hl 0 rfl) ?_
  refine lv_iload_n XC.hx XC.hb dL_law_274 rfl (lv_at hl 3 rfl) ?_
  refine lv_iconst (v := 1) XC.hx XC.hb dL_law_275 (by decide) ?_
  refine lv_iadd XC.hx XC.hb dL_law_276 ?_
  refine va_sld XC.hx XC.hb hX hbl hbA hS hi1 dL_law_277 ?_
  refine lv_aload_n XC.hx XC.hb dL_law_278 rfl (lv_at hl 0 rfl) ?_
  refine lv_iload_n XC.hx XC.hb dL_law_279 rfl (lv_at hl 3 rfl) ?_
  refine lv_iconst (v := 2) XC.hx XC.hb dL_law_280 (by decide) ?_
  refine lv_iadd XC.hx XC.hb dL_law_281 ?_
  refine va_sld XC.hx XC.hb hX hbl hbA hS hi2 dL_law_282 ?_
  refine gl_callI (As := [.int (xs (x3 + 1).toNatClampNeg), .int (xs (x3 + 2).toNatClampNeg)]) (rest := [.int r]) XM (kX6_clerk l (o := 0) rfl e2) (C := RX6) (T := TX6) (N := 39) (ci := 6) rfl rfl ⟨cdX6_clerk, mlL_35, imX6_clerk, seX6_clerk, iniX6⟩ hvX6_clerk ⟨Nat.le_of_ble_eq_true rfl, Nat.le_of_ble_eq_true rfl⟩ hM hS lw_aM XC.hD hC lw_dMC hl rfl rfl (Nat.le_of_ble_eq_true rfl) ⟨Nat.le_refl _, Nat.le_refl _⟩ dL_law_283 (fun H locs hM hC hS => ?_)
  refine lv_icmp_eq (tgt := 955) XC.hx XC.hb dL_law_286 (by decide) (fun _ => ?_) (fun c_ => absurd (rfl) c_)
  exact kk σ τ hR _ _ hC hM hS
set_option maxHeartbeats 4000000 in
set_option maxRecDepth 100000 in
theorem lw_case5 {p : Program} {l : Launch} {e : Env} {s : State} {m : MethodId} {below : List Frame} {meth : Method} {c : Code} {b L : Nat} {xs : Nat → Int32} {D : va_G} {ca : Nat → ClassId} (S0 : lwS p s m meth c b L xs D ca) {i : Nat} {x3 : Int32} (hi4 : i + 4 ≤ L) (ex : x3 = nI i) {σ τ : Mem} (hR : Rel σ τ) {H : Heap} {locs : List Loc} (hC : gH (GC D ca s.heap.size) σ H) (hM : gH (GM D ca (s.heap.size + 69)) τ H) (hS : va_S (fun q : Nat => s.heap.size ≤ q) s.heap H locs) {ls : Array Slot} (hl : lv_has ls 4 [(0, .ref b), (1, .ref (gad (GC D ca s.heap.size) 0 0)), (2, .ref (gad (GM D ca (s.heap.size + 69)) 0 0)), (3, .int x3)])
    (kk : ∀ (σ τ : Mem), Rel σ τ → ∀ (H : Heap) (locs : List Loc), gH (GC D ca s.heap.size) σ H → gH (GM D ca (s.heap.size + 69)) τ H → va_S (fun q : Nat => s.heap.size ≤ q) s.heap H locs → W p l e room_1 s m #[Value.ref b] below meth c H locs 600000 7302250 (lw_Z below #[Value.ref b] s) (F0 m 955 ls [])) : W p l e room_1 s m #[Value.ref b] below meth c H locs 600000 7302250 (lw_Z below #[Value.ref b] s) (F0 m 291 ls []) := by
  obtain ⟨XC, XM, hX, hbl, hL⟩ := S0
  have hbA : ¬ (fun q : Nat => s.heap.size ≤ q) b := Nat.not_le.mpr hbl
  have hi1 : vp_in (x3 + 1) L := by rw [ex, nI_1]; exact vp_in_nI (by omega) (by omega)
  obtain ⟨r, e1, e2⟩ := op_now hR (xs (x3 + 1).toNatClampNeg)
  refine lv_aload_n XC.hx XC.hb dL_law_291 rfl (lv_at hl 1 rfl) ?_
  refine lv_aload_n XC.hx XC.hb dL_law_292 rfl (lv_at hl 0 rfl) ?_
  refine lv_iload_n XC.hx XC.hb dL_law_293 rfl (lv_at hl 3 rfl) ?_
  refine lv_iconst (v := 1) XC.hx XC.hb dL_law_294 (by decide) ?_
  refine lv_iadd XC.hx XC.hb dL_law_295 ?_
  refine va_sld XC.hx XC.hb hX hbl hbA hS hi1 dL_law_296 ?_
  refine gl_callI (As := [.int (xs (x3 + 1).toNatClampNeg)]) (rest := []) XC (kX5_now l (o := 0) rfl e1) (C := RX5) (T := TX5) (N := 14) (ci := 5) rfl rfl ⟨cdX5_now, mlL_36, imX5_now, seX5_now, iniX5⟩ hvX5_now ⟨Nat.le_of_ble_eq_true rfl, Nat.le_of_ble_eq_true rfl⟩ hC hS lw_aC XM.hD hM lw_dCM hl rfl rfl (Nat.le_of_ble_eq_true rfl) ⟨Nat.le_refl _, Nat.le_refl _⟩ dL_law_297 (fun H locs hC hM hS => ?_)
  refine lv_aload_n XC.hx XC.hb dL_law_300 rfl (lv_at hl 2 rfl) ?_
  refine lv_aload_n XC.hx XC.hb dL_law_301 rfl (lv_at hl 0 rfl) ?_
  refine lv_iload_n XC.hx XC.hb dL_law_302 rfl (lv_at hl 3 rfl) ?_
  refine lv_iconst (v := 1) XC.hx XC.hb dL_law_303 (by decide) ?_
  refine lv_iadd XC.hx XC.hb dL_law_304 ?_
  refine va_sld XC.hx XC.hb hX hbl hbA hS hi1 dL_law_305 ?_
  refine gl_callI (As := [.int (xs (x3 + 1).toNatClampNeg)]) (rest := [.int r]) XM (kX6_now l (o := 0) rfl e2) (C := RX6) (T := TX6) (N := 39) (ci := 6) rfl rfl ⟨cdX6_now, mlL_39, imX6_now, seX6_now, iniX6⟩ hvX6_now ⟨Nat.le_of_ble_eq_true rfl, Nat.le_of_ble_eq_true rfl⟩ hM hS lw_aM XC.hD hC lw_dMC hl rfl rfl (Nat.le_of_ble_eq_true rfl) ⟨Nat.le_refl _, Nat.le_refl _⟩ dL_law_306 (fun H locs hM hC hS => ?_)
  refine lv_icmp_eq (tgt := 955) XC.hx XC.hb dL_law_309 (by decide) (fun _ => ?_) (fun c_ => absurd (rfl) c_)
  exact kk σ τ hR _ _ hC hM hS
set_option maxHeartbeats 4000000 in
set_option maxRecDepth 100000 in
theorem lw_case6 {p : Program} {l : Launch} {e : Env} {s : State} {m : MethodId} {below : List Frame} {meth : Method} {c : Code} {b L : Nat} {xs : Nat → Int32} {D : va_G} {ca : Nat → ClassId} (S0 : lwS p s m meth c b L xs D ca) {i : Nat} {x3 : Int32} (hi4 : i + 4 ≤ L) (ex : x3 = nI i) {σ τ : Mem} (hR : Rel σ τ) {H : Heap} {locs : List Loc} (hC : gH (GC D ca s.heap.size) σ H) (hM : gH (GM D ca (s.heap.size + 69)) τ H) (hS : va_S (fun q : Nat => s.heap.size ≤ q) s.heap H locs) {ls : Array Slot} (hl : lv_has ls 4 [(0, .ref b), (1, .ref (gad (GC D ca s.heap.size) 0 0)), (2, .ref (gad (GM D ca (s.heap.size + 69)) 0 0)), (3, .int x3)])
    (kk : ∀ (σ τ : Mem), Rel σ τ → ∀ (H : Heap) (locs : List Loc), gH (GC D ca s.heap.size) σ H → gH (GM D ca (s.heap.size + 69)) τ H → va_S (fun q : Nat => s.heap.size ≤ q) s.heap H locs → W p l e room_1 s m #[Value.ref b] below meth c H locs 600000 7302250 (lw_Z below #[Value.ref b] s) (F0 m 955 ls [])) : W p l e room_1 s m #[Value.ref b] below meth c H locs 600000 7302250 (lw_Z below #[Value.ref b] s) (F0 m 314 ls []) := by
  obtain ⟨XC, XM, hX, hbl, hL⟩ := S0
  have hbA : ¬ (fun q : Nat => s.heap.size ≤ q) b := Nat.not_le.mpr hbl
  have hi1 : vp_in (x3 + 1) L := by rw [ex, nI_1]; exact vp_in_nI (by omega) (by omega)
  have hi2 : vp_in (x3 + 2) L := by rw [ex, nI_2]; exact vp_in_nI (by omega) (by omega)
  obtain ⟨r, σ', τ', e1, e2, hR⟩ := op_puts hR (xs (x3 + 1).toNatClampNeg) (xs (x3 + 2).toNatClampNeg)
  refine lv_aload_n XC.hx XC.hb dL_law_314 rfl (lv_at hl 1 rfl) ?_
  refine lv_aload_n XC.hx XC.hb dL_law_315 rfl (lv_at hl 0 rfl) ?_
  refine lv_iload_n XC.hx XC.hb dL_law_316 rfl (lv_at hl 3 rfl) ?_
  refine lv_iconst (v := 1) XC.hx XC.hb dL_law_317 (by decide) ?_
  refine lv_iadd XC.hx XC.hb dL_law_318 ?_
  refine va_sld XC.hx XC.hb hX hbl hbA hS hi1 dL_law_319 ?_
  refine lv_aload_n XC.hx XC.hb dL_law_320 rfl (lv_at hl 0 rfl) ?_
  refine lv_iload_n XC.hx XC.hb dL_law_321 rfl (lv_at hl 3 rfl) ?_
  refine lv_iconst (v := 2) XC.hx XC.hb dL_law_322 (by decide) ?_
  refine lv_iadd XC.hx XC.hb dL_law_323 ?_
  refine va_sld XC.hx XC.hb hX hbl hbA hS hi2 dL_law_324 ?_
  refine gl_callI (As := [.int (xs (x3 + 1).toNatClampNeg), .int (xs (x3 + 2).toNatClampNeg)]) (rest := []) XC (kX5_puts l (o := 0) rfl e1) (C := RX5) (T := TX5) (N := 14) (ci := 5) rfl rfl ⟨cdX5_puts, mlL_40, imX5_puts, seX5_puts, iniX5⟩ hvX5_puts ⟨Nat.le_of_ble_eq_true rfl, Nat.le_of_ble_eq_true rfl⟩ hC hS lw_aC XM.hD hM lw_dCM hl rfl rfl (Nat.le_of_ble_eq_true rfl) ⟨Nat.le_refl _, Nat.le_refl _⟩ dL_law_325 (fun H locs hC hM hS => ?_)
  refine lv_aload_n XC.hx XC.hb dL_law_328 rfl (lv_at hl 2 rfl) ?_
  refine lv_aload_n XC.hx XC.hb dL_law_329 rfl (lv_at hl 0 rfl) ?_
  refine lv_iload_n XC.hx XC.hb dL_law_330 rfl (lv_at hl 3 rfl) ?_
  refine lv_iconst (v := 1) XC.hx XC.hb dL_law_331 (by decide) ?_
  refine lv_iadd XC.hx XC.hb dL_law_332 ?_
  refine va_sld XC.hx XC.hb hX hbl hbA hS hi1 dL_law_333 ?_
  refine lv_aload_n XC.hx XC.hb dL_law_334 rfl (lv_at hl 0 rfl) ?_
  refine lv_iload_n XC.hx XC.hb dL_law_335 rfl (lv_at hl 3 rfl) ?_
  refine lv_iconst (v := 2) XC.hx XC.hb dL_law_336 (by decide) ?_
  refine lv_iadd XC.hx XC.hb dL_law_337 ?_
  refine va_sld XC.hx XC.hb hX hbl hbA hS hi2 dL_law_338 ?_
  refine gl_callI (As := [.int (xs (x3 + 1).toNatClampNeg), .int (xs (x3 + 2).toNatClampNeg)]) (rest := [.int r]) XM (kX6_puts l (o := 0) rfl e2) (C := RX6) (T := TX6) (N := 39) (ci := 6) rfl rfl ⟨cdX6_puts, mlL_43, imX6_puts, seX6_puts, iniX6⟩ hvX6_puts ⟨Nat.le_of_ble_eq_true rfl, Nat.le_of_ble_eq_true rfl⟩ hM hS lw_aM XC.hD hC lw_dMC hl rfl rfl (Nat.le_of_ble_eq_true rfl) ⟨Nat.le_refl _, Nat.le_refl _⟩ dL_law_339 (fun H locs hM hC hS => ?_)
  refine lv_icmp_eq (tgt := 955) XC.hx XC.hb dL_law_342 (by decide) (fun _ => ?_) (fun c_ => absurd (rfl) c_)
  exact kk σ' τ' hR _ _ hC hM hS
set_option maxHeartbeats 4000000 in
set_option maxRecDepth 100000 in
theorem lw_case7 {p : Program} {l : Launch} {e : Env} {s : State} {m : MethodId} {below : List Frame} {meth : Method} {c : Code} {b L : Nat} {xs : Nat → Int32} {D : va_G} {ca : Nat → ClassId} (S0 : lwS p s m meth c b L xs D ca) {i : Nat} {x3 : Int32} (hi4 : i + 4 ≤ L) (ex : x3 = nI i) {σ τ : Mem} (hR : Rel σ τ) {H : Heap} {locs : List Loc} (hC : gH (GC D ca s.heap.size) σ H) (hM : gH (GM D ca (s.heap.size + 69)) τ H) (hS : va_S (fun q : Nat => s.heap.size ≤ q) s.heap H locs) {ls : Array Slot} (hl : lv_has ls 4 [(0, .ref b), (1, .ref (gad (GC D ca s.heap.size) 0 0)), (2, .ref (gad (GM D ca (s.heap.size + 69)) 0 0)), (3, .int x3)])
    (kk : ∀ (σ τ : Mem), Rel σ τ → ∀ (H : Heap) (locs : List Loc), gH (GC D ca s.heap.size) σ H → gH (GM D ca (s.heap.size + 69)) τ H → va_S (fun q : Nat => s.heap.size ≤ q) s.heap H locs → W p l e room_1 s m #[Value.ref b] below meth c H locs 600000 7302250 (lw_Z below #[Value.ref b] s) (F0 m 955 ls [])) : W p l e room_1 s m #[Value.ref b] below meth c H locs 600000 7302250 (lw_Z below #[Value.ref b] s) (F0 m 347 ls []) := by
  obtain ⟨XC, XM, hX, hbl, hL⟩ := S0
  have hbA : ¬ (fun q : Nat => s.heap.size ≤ q) b := Nat.not_le.mpr hbl
  obtain ⟨r, σ', τ', e1, e2, hR⟩ := op_day hR 
  refine lv_aload_n XC.hx XC.hb dL_law_347 rfl (lv_at hl 1 rfl) ?_
  refine gl_callI (As := []) (rest := []) XC (kX5_day l (o := 0) rfl e1) (C := RX5) (T := TX5) (N := 14) (ci := 5) rfl rfl ⟨cdX5_day, mlL_44, imX5_day, seX5_day, iniX5⟩ hvX5_day ⟨Nat.le_of_ble_eq_true rfl, Nat.le_of_ble_eq_true rfl⟩ hC hS lw_aC XM.hD hM lw_dCM hl rfl rfl (Nat.le_of_ble_eq_true rfl) ⟨Nat.le_refl _, Nat.le_refl _⟩ dL_law_348 (fun H locs hC hM hS => ?_)
  refine lv_aload_n XC.hx XC.hb dL_law_351 rfl (lv_at hl 2 rfl) ?_
  refine gl_callI (As := []) (rest := [.int r]) XM (kX6_day l (o := 0) rfl e2) (C := RX6) (T := TX6) (N := 39) (ci := 6) rfl rfl ⟨cdX6_day, mlL_47, imX6_day, seX6_day, iniX6⟩ hvX6_day ⟨Nat.le_of_ble_eq_true rfl, Nat.le_of_ble_eq_true rfl⟩ hM hS lw_aM XC.hD hC lw_dMC hl rfl rfl (Nat.le_of_ble_eq_true rfl) ⟨Nat.le_refl _, Nat.le_refl _⟩ dL_law_352 (fun H locs hM hC hS => ?_)
  refine lv_icmp_eq (tgt := 955) XC.hx XC.hb dL_law_355 (by decide) (fun _ => ?_) (fun c_ => absurd (rfl) c_)
  exact kk σ' τ' hR _ _ hC hM hS
set_option maxHeartbeats 4000000 in
set_option maxRecDepth 100000 in
theorem lw_case8 {p : Program} {l : Launch} {e : Env} {s : State} {m : MethodId} {below : List Frame} {meth : Method} {c : Code} {b L : Nat} {xs : Nat → Int32} {D : va_G} {ca : Nat → ClassId} (S0 : lwS p s m meth c b L xs D ca) {i : Nat} {x3 : Int32} (hi4 : i + 4 ≤ L) (ex : x3 = nI i) {σ τ : Mem} (hR : Rel σ τ) {H : Heap} {locs : List Loc} (hC : gH (GC D ca s.heap.size) σ H) (hM : gH (GM D ca (s.heap.size + 69)) τ H) (hS : va_S (fun q : Nat => s.heap.size ≤ q) s.heap H locs) {ls : Array Slot} (hl : lv_has ls 4 [(0, .ref b), (1, .ref (gad (GC D ca s.heap.size) 0 0)), (2, .ref (gad (GM D ca (s.heap.size + 69)) 0 0)), (3, .int x3)])
    (kk : ∀ (σ τ : Mem), Rel σ τ → ∀ (H : Heap) (locs : List Loc), gH (GC D ca s.heap.size) σ H → gH (GM D ca (s.heap.size + 69)) τ H → va_S (fun q : Nat => s.heap.size ≤ q) s.heap H locs → W p l e room_1 s m #[Value.ref b] below meth c H locs 600000 7302250 (lw_Z below #[Value.ref b] s) (F0 m 955 ls [])) : W p l e room_1 s m #[Value.ref b] below meth c H locs 600000 7302250 (lw_Z below #[Value.ref b] s) (F0 m 360 ls []) := by
  obtain ⟨XC, XM, hX, hbl, hL⟩ := S0
  have hbA : ¬ (fun q : Nat => s.heap.size ≤ q) b := Nat.not_le.mpr hbl
  have hi1 : vp_in (x3 + 1) L := by rw [ex, nI_1]; exact vp_in_nI (by omega) (by omega)
  obtain ⟨r, σ', τ', e1, e2, hR⟩ := op_sails hR (xs (x3 + 1).toNatClampNeg)
  refine lv_aload_n XC.hx XC.hb dL_law_360 rfl (lv_at hl 1 rfl) ?_
  refine lv_aload_n XC.hx XC.hb dL_law_361 rfl (lv_at hl 0 rfl) ?_
  refine lv_iload_n XC.hx XC.hb dL_law_362 rfl (lv_at hl 3 rfl) ?_
  refine lv_iconst (v := 1) XC.hx XC.hb dL_law_363 (by decide) ?_
  refine lv_iadd XC.hx XC.hb dL_law_364 ?_
  refine va_sld XC.hx XC.hb hX hbl hbA hS hi1 dL_law_365 ?_
  refine gl_callI (As := [.int (xs (x3 + 1).toNatClampNeg)]) (rest := []) XC (kX5_sails l (o := 0) rfl e1) (C := RX5) (T := TX5) (N := 14) (ci := 5) rfl rfl ⟨cdX5_sails, mlL_48, imX5_sails, seX5_sails, iniX5⟩ hvX5_sails ⟨Nat.le_of_ble_eq_true rfl, Nat.le_of_ble_eq_true rfl⟩ hC hS lw_aC XM.hD hM lw_dCM hl rfl rfl (Nat.le_of_ble_eq_true rfl) ⟨Nat.le_refl _, Nat.le_refl _⟩ dL_law_366 (fun H locs hC hM hS => ?_)
  refine lv_aload_n XC.hx XC.hb dL_law_369 rfl (lv_at hl 2 rfl) ?_
  refine lv_aload_n XC.hx XC.hb dL_law_370 rfl (lv_at hl 0 rfl) ?_
  refine lv_iload_n XC.hx XC.hb dL_law_371 rfl (lv_at hl 3 rfl) ?_
  refine lv_iconst (v := 1) XC.hx XC.hb dL_law_372 (by decide) ?_
  refine lv_iadd XC.hx XC.hb dL_law_373 ?_
  refine va_sld XC.hx XC.hb hX hbl hbA hS hi1 dL_law_374 ?_
  refine gl_callI (As := [.int (xs (x3 + 1).toNatClampNeg)]) (rest := [.int r]) XM (kX6_sails l (o := 0) rfl e2) (C := RX6) (T := TX6) (N := 39) (ci := 6) rfl rfl ⟨cdX6_sails, mlL_51, imX6_sails, seX6_sails, iniX6⟩ hvX6_sails ⟨Nat.le_of_ble_eq_true rfl, Nat.le_of_ble_eq_true rfl⟩ hM hS lw_aM XC.hD hC lw_dMC hl rfl rfl (Nat.le_of_ble_eq_true rfl) ⟨Nat.le_refl _, Nat.le_refl _⟩ dL_law_375 (fun H locs hM hC hS => ?_)
  refine lv_icmp_eq (tgt := 955) XC.hx XC.hb dL_law_378 (by decide) (fun _ => ?_) (fun c_ => absurd (rfl) c_)
  exact kk σ' τ' hR _ _ hC hM hS
set_option maxHeartbeats 4000000 in
set_option maxRecDepth 100000 in
theorem lw_case9 {p : Program} {l : Launch} {e : Env} {s : State} {m : MethodId} {below : List Frame} {meth : Method} {c : Code} {b L : Nat} {xs : Nat → Int32} {D : va_G} {ca : Nat → ClassId} (S0 : lwS p s m meth c b L xs D ca) {i : Nat} {x3 : Int32} (hi4 : i + 4 ≤ L) (ex : x3 = nI i) {σ τ : Mem} (hR : Rel σ τ) {H : Heap} {locs : List Loc} (hC : gH (GC D ca s.heap.size) σ H) (hM : gH (GM D ca (s.heap.size + 69)) τ H) (hS : va_S (fun q : Nat => s.heap.size ≤ q) s.heap H locs) {ls : Array Slot} (hl : lv_has ls 4 [(0, .ref b), (1, .ref (gad (GC D ca s.heap.size) 0 0)), (2, .ref (gad (GM D ca (s.heap.size + 69)) 0 0)), (3, .int x3)])
    (kk : ∀ (σ τ : Mem), Rel σ τ → ∀ (H : Heap) (locs : List Loc), gH (GC D ca s.heap.size) σ H → gH (GM D ca (s.heap.size + 69)) τ H → va_S (fun q : Nat => s.heap.size ≤ q) s.heap H locs → W p l e room_1 s m #[Value.ref b] below meth c H locs 600000 7302250 (lw_Z below #[Value.ref b] s) (F0 m 955 ls [])) : W p l e room_1 s m #[Value.ref b] below meth c H locs 600000 7302250 (lw_Z below #[Value.ref b] s) (F0 m 383 ls []) := by
  obtain ⟨XC, XM, hX, hbl, hL⟩ := S0
  have hbA : ¬ (fun q : Nat => s.heap.size ≤ q) b := Nat.not_le.mpr hbl
  obtain ⟨r, σ', τ', e1, e2, hR⟩ := op_undo hR 
  refine lv_aload_n XC.hx XC.hb dL_law_383 rfl (lv_at hl 1 rfl) ?_
  refine gl_callI (As := []) (rest := []) XC (kX5_undo l (o := 0) rfl e1) (C := RX5) (T := TX5) (N := 14) (ci := 5) rfl rfl ⟨cdX5_undo, mlL_52, imX5_undo, seX5_undo, iniX5⟩ hvX5_undo ⟨Nat.le_of_ble_eq_true rfl, Nat.le_of_ble_eq_true rfl⟩ hC hS lw_aC XM.hD hM lw_dCM hl rfl rfl (Nat.le_of_ble_eq_true rfl) ⟨Nat.le_refl _, Nat.le_refl _⟩ dL_law_384 (fun H locs hC hM hS => ?_)
  refine lv_aload_n XC.hx XC.hb dL_law_387 rfl (lv_at hl 2 rfl) ?_
  refine gl_callI (As := []) (rest := [.int r]) XM (kX6_undo l (o := 0) rfl e2) (C := RX6) (T := TX6) (N := 39) (ci := 6) rfl rfl ⟨cdX6_undo, mlL_55, imX6_undo, seX6_undo, iniX6⟩ hvX6_undo ⟨Nat.le_of_ble_eq_true rfl, Nat.le_of_ble_eq_true rfl⟩ hM hS lw_aM XC.hD hC lw_dMC hl rfl rfl (Nat.le_of_ble_eq_true rfl) ⟨Nat.le_refl _, Nat.le_refl _⟩ dL_law_388 (fun H locs hM hC hS => ?_)
  refine lv_icmp_eq (tgt := 955) XC.hx XC.hb dL_law_391 (by decide) (fun _ => ?_) (fun c_ => absurd (rfl) c_)
  exact kk σ' τ' hR _ _ hC hM hS
set_option maxHeartbeats 4000000 in
set_option maxRecDepth 100000 in
theorem lw_case10 {p : Program} {l : Launch} {e : Env} {s : State} {m : MethodId} {below : List Frame} {meth : Method} {c : Code} {b L : Nat} {xs : Nat → Int32} {D : va_G} {ca : Nat → ClassId} (S0 : lwS p s m meth c b L xs D ca) {i : Nat} {x3 : Int32} (hi4 : i + 4 ≤ L) (ex : x3 = nI i) {σ τ : Mem} (hR : Rel σ τ) {H : Heap} {locs : List Loc} (hC : gH (GC D ca s.heap.size) σ H) (hM : gH (GM D ca (s.heap.size + 69)) τ H) (hS : va_S (fun q : Nat => s.heap.size ≤ q) s.heap H locs) {ls : Array Slot} (hl : lv_has ls 4 [(0, .ref b), (1, .ref (gad (GC D ca s.heap.size) 0 0)), (2, .ref (gad (GM D ca (s.heap.size + 69)) 0 0)), (3, .int x3)])
    (kk : ∀ (σ τ : Mem), Rel σ τ → ∀ (H : Heap) (locs : List Loc), gH (GC D ca s.heap.size) σ H → gH (GM D ca (s.heap.size + 69)) τ H → va_S (fun q : Nat => s.heap.size ≤ q) s.heap H locs → W p l e room_1 s m #[Value.ref b] below meth c H locs 600000 7302250 (lw_Z below #[Value.ref b] s) (F0 m 955 ls [])) : W p l e room_1 s m #[Value.ref b] below meth c H locs 600000 7302250 (lw_Z below #[Value.ref b] s) (F0 m 396 ls []) := by
  obtain ⟨XC, XM, hX, hbl, hL⟩ := S0
  have hbA : ¬ (fun q : Nat => s.heap.size ≤ q) b := Nat.not_le.mpr hbl
  have hi1 : vp_in (x3 + 1) L := by rw [ex, nI_1]; exact vp_in_nI (by omega) (by omega)
  have hi2 : vp_in (x3 + 2) L := by rw [ex, nI_2]; exact vp_in_nI (by omega) (by omega)
  obtain ⟨r, σ', τ', e1, e2, hR⟩ := op_most hR (xs (x3 + 1).toNatClampNeg) (xs (x3 + 2).toNatClampNeg)
  refine lv_aload_n XC.hx XC.hb dL_law_396 rfl (lv_at hl 1 rfl) ?_
  refine lv_aload_n XC.hx XC.hb dL_law_397 rfl (lv_at hl 0 rfl) ?_
  refine lv_iload_n XC.hx XC.hb dL_law_398 rfl (lv_at hl 3 rfl) ?_
  refine lv_iconst (v := 1) XC.hx XC.hb dL_law_399 (by decide) ?_
  refine lv_iadd XC.hx XC.hb dL_law_400 ?_
  refine va_sld XC.hx XC.hb hX hbl hbA hS hi1 dL_law_401 ?_
  refine lv_aload_n XC.hx XC.hb dL_law_402 rfl (lv_at hl 0 rfl) ?_
  refine lv_iload_n XC.hx XC.hb dL_law_403 rfl (lv_at hl 3 rfl) ?_
  refine lv_iconst (v := 2) XC.hx XC.hb dL_law_404 (by decide) ?_
  refine lv_iadd XC.hx XC.hb dL_law_405 ?_
  refine va_sld XC.hx XC.hb hX hbl hbA hS hi2 dL_law_406 ?_
  refine gl_callI (As := [.int (xs (x3 + 1).toNatClampNeg), .int (xs (x3 + 2).toNatClampNeg)]) (rest := []) XC (kX5_most l (o := 0) rfl e1) (C := RX5) (T := TX5) (N := 14) (ci := 5) rfl rfl ⟨cdX5_most, mlL_56, imX5_most, seX5_most, iniX5⟩ hvX5_most ⟨Nat.le_of_ble_eq_true rfl, Nat.le_of_ble_eq_true rfl⟩ hC hS lw_aC XM.hD hM lw_dCM hl rfl rfl (Nat.le_of_ble_eq_true rfl) ⟨Nat.le_refl _, Nat.le_refl _⟩ dL_law_407 (fun H locs hC hM hS => ?_)
  refine lv_aload_n XC.hx XC.hb dL_law_410 rfl (lv_at hl 2 rfl) ?_
  refine lv_aload_n XC.hx XC.hb dL_law_411 rfl (lv_at hl 0 rfl) ?_
  refine lv_iload_n XC.hx XC.hb dL_law_412 rfl (lv_at hl 3 rfl) ?_
  refine lv_iconst (v := 1) XC.hx XC.hb dL_law_413 (by decide) ?_
  refine lv_iadd XC.hx XC.hb dL_law_414 ?_
  refine va_sld XC.hx XC.hb hX hbl hbA hS hi1 dL_law_415 ?_
  refine lv_aload_n XC.hx XC.hb dL_law_416 rfl (lv_at hl 0 rfl) ?_
  refine lv_iload_n XC.hx XC.hb dL_law_417 rfl (lv_at hl 3 rfl) ?_
  refine lv_iconst (v := 2) XC.hx XC.hb dL_law_418 (by decide) ?_
  refine lv_iadd XC.hx XC.hb dL_law_419 ?_
  refine va_sld XC.hx XC.hb hX hbl hbA hS hi2 dL_law_420 ?_
  refine gl_callI (As := [.int (xs (x3 + 1).toNatClampNeg), .int (xs (x3 + 2).toNatClampNeg)]) (rest := [.int r]) XM (kX6_most l (o := 0) rfl e2) (C := RX6) (T := TX6) (N := 39) (ci := 6) rfl rfl ⟨cdX6_most, mlL_59, imX6_most, seX6_most, iniX6⟩ hvX6_most ⟨Nat.le_of_ble_eq_true rfl, Nat.le_of_ble_eq_true rfl⟩ hM hS lw_aM XC.hD hC lw_dMC hl rfl rfl (Nat.le_of_ble_eq_true rfl) ⟨Nat.le_refl _, Nat.le_refl _⟩ dL_law_421 (fun H locs hM hC hS => ?_)
  refine lv_icmp_eq (tgt := 955) XC.hx XC.hb dL_law_424 (by decide) (fun _ => ?_) (fun c_ => absurd (rfl) c_)
  exact kk σ' τ' hR _ _ hC hM hS
set_option maxHeartbeats 4000000 in
set_option maxRecDepth 100000 in
theorem lw_case11 {p : Program} {l : Launch} {e : Env} {s : State} {m : MethodId} {below : List Frame} {meth : Method} {c : Code} {b L : Nat} {xs : Nat → Int32} {D : va_G} {ca : Nat → ClassId} (S0 : lwS p s m meth c b L xs D ca) {i : Nat} {x3 : Int32} (hi4 : i + 4 ≤ L) (ex : x3 = nI i) {σ τ : Mem} (hR : Rel σ τ) {H : Heap} {locs : List Loc} (hC : gH (GC D ca s.heap.size) σ H) (hM : gH (GM D ca (s.heap.size + 69)) τ H) (hS : va_S (fun q : Nat => s.heap.size ≤ q) s.heap H locs) {ls : Array Slot} (hl : lv_has ls 4 [(0, .ref b), (1, .ref (gad (GC D ca s.heap.size) 0 0)), (2, .ref (gad (GM D ca (s.heap.size + 69)) 0 0)), (3, .int x3)])
    (kk : ∀ (σ τ : Mem), Rel σ τ → ∀ (H : Heap) (locs : List Loc), gH (GC D ca s.heap.size) σ H → gH (GM D ca (s.heap.size + 69)) τ H → va_S (fun q : Nat => s.heap.size ≤ q) s.heap H locs → W p l e room_1 s m #[Value.ref b] below meth c H locs 600000 7302250 (lw_Z below #[Value.ref b] s) (F0 m 955 ls [])) : W p l e room_1 s m #[Value.ref b] below meth c H locs 600000 7302250 (lw_Z below #[Value.ref b] s) (F0 m 429 ls []) := by
  obtain ⟨XC, XM, hX, hbl, hL⟩ := S0
  have hbA : ¬ (fun q : Nat => s.heap.size ≤ q) b := Nat.not_le.mpr hbl
  have hi1 : vp_in (x3 + 1) L := by rw [ex, nI_1]; exact vp_in_nI (by omega) (by omega)
  obtain ⟨r, σ', τ', e1, e2, hR⟩ := op_soonest hR (xs (x3 + 1).toNatClampNeg)
  refine lv_aload_n XC.hx XC.hb dL_law_429 rfl (lv_at hl 1 rfl) ?_
  refine lv_aload_n XC.hx XC.hb dL_law_430 rfl (lv_at hl 0 rfl) ?_
  refine lv_iload_n XC.hx XC.hb dL_law_431 rfl (lv_at hl 3 rfl) ?_
  refine lv_iconst (v := 1) XC.hx XC.hb dL_law_432 (by decide) ?_
  refine lv_iadd XC.hx XC.hb dL_law_433 ?_
  refine va_sld XC.hx XC.hb hX hbl hbA hS hi1 dL_law_434 ?_
  refine gl_callI (As := [.int (xs (x3 + 1).toNatClampNeg)]) (rest := []) XC (kX5_soonest l (o := 0) rfl e1) (C := RX5) (T := TX5) (N := 14) (ci := 5) rfl rfl ⟨cdX5_soonest, mlL_60, imX5_soonest, seX5_soonest, iniX5⟩ hvX5_soonest ⟨Nat.le_of_ble_eq_true rfl, Nat.le_of_ble_eq_true rfl⟩ hC hS lw_aC XM.hD hM lw_dCM hl rfl rfl (Nat.le_of_ble_eq_true rfl) ⟨Nat.le_refl _, Nat.le_refl _⟩ dL_law_435 (fun H locs hC hM hS => ?_)
  refine lv_aload_n XC.hx XC.hb dL_law_438 rfl (lv_at hl 2 rfl) ?_
  refine lv_aload_n XC.hx XC.hb dL_law_439 rfl (lv_at hl 0 rfl) ?_
  refine lv_iload_n XC.hx XC.hb dL_law_440 rfl (lv_at hl 3 rfl) ?_
  refine lv_iconst (v := 1) XC.hx XC.hb dL_law_441 (by decide) ?_
  refine lv_iadd XC.hx XC.hb dL_law_442 ?_
  refine va_sld XC.hx XC.hb hX hbl hbA hS hi1 dL_law_443 ?_
  refine gl_callI (As := [.int (xs (x3 + 1).toNatClampNeg)]) (rest := [.int r]) XM (kX6_soonest l (o := 0) rfl e2) (C := RX6) (T := TX6) (N := 39) (ci := 6) rfl rfl ⟨cdX6_soonest, mlL_63, imX6_soonest, seX6_soonest, iniX6⟩ hvX6_soonest ⟨Nat.le_of_ble_eq_true rfl, Nat.le_of_ble_eq_true rfl⟩ hM hS lw_aM XC.hD hC lw_dMC hl rfl rfl (Nat.le_of_ble_eq_true rfl) ⟨Nat.le_refl _, Nat.le_refl _⟩ dL_law_444 (fun H locs hM hC hS => ?_)
  refine lv_icmp_eq (tgt := 955) XC.hx XC.hb dL_law_447 (by decide) (fun _ => ?_) (fun c_ => absurd (rfl) c_)
  exact kk σ' τ' hR _ _ hC hM hS
set_option maxHeartbeats 4000000 in
set_option maxRecDepth 100000 in
theorem lw_case12 {p : Program} {l : Launch} {e : Env} {s : State} {m : MethodId} {below : List Frame} {meth : Method} {c : Code} {b L : Nat} {xs : Nat → Int32} {D : va_G} {ca : Nat → ClassId} (S0 : lwS p s m meth c b L xs D ca) {i : Nat} {x3 : Int32} (hi4 : i + 4 ≤ L) (ex : x3 = nI i) {σ τ : Mem} (hR : Rel σ τ) {H : Heap} {locs : List Loc} (hC : gH (GC D ca s.heap.size) σ H) (hM : gH (GM D ca (s.heap.size + 69)) τ H) (hS : va_S (fun q : Nat => s.heap.size ≤ q) s.heap H locs) {ls : Array Slot} (hl : lv_has ls 4 [(0, .ref b), (1, .ref (gad (GC D ca s.heap.size) 0 0)), (2, .ref (gad (GM D ca (s.heap.size + 69)) 0 0)), (3, .int x3)])
    (kk : ∀ (σ τ : Mem), Rel σ τ → ∀ (H : Heap) (locs : List Loc), gH (GC D ca s.heap.size) σ H → gH (GM D ca (s.heap.size + 69)) τ H → va_S (fun q : Nat => s.heap.size ≤ q) s.heap H locs → W p l e room_1 s m #[Value.ref b] below meth c H locs 600000 7302250 (lw_Z below #[Value.ref b] s) (F0 m 955 ls [])) : W p l e room_1 s m #[Value.ref b] below meth c H locs 600000 7302250 (lw_Z below #[Value.ref b] s) (F0 m 452 ls []) := by
  obtain ⟨XC, XM, hX, hbl, hL⟩ := S0
  have hbA : ¬ (fun q : Nat => s.heap.size ≤ q) b := Nat.not_le.mpr hbl
  have hi1 : vp_in (x3 + 1) L := by rw [ex, nI_1]; exact vp_in_nI (by omega) (by omega)
  have hi2 : vp_in (x3 + 2) L := by rw [ex, nI_2]; exact vp_in_nI (by omega) (by omega)
  obtain ⟨r, σ', τ', e1, e2, hR⟩ := op_plan hR (xs (x3 + 1).toNatClampNeg) (xs (x3 + 2).toNatClampNeg)
  refine lv_aload_n XC.hx XC.hb dL_law_452 rfl (lv_at hl 1 rfl) ?_
  refine lv_aload_n XC.hx XC.hb dL_law_453 rfl (lv_at hl 0 rfl) ?_
  refine lv_iload_n XC.hx XC.hb dL_law_454 rfl (lv_at hl 3 rfl) ?_
  refine lv_iconst (v := 1) XC.hx XC.hb dL_law_455 (by decide) ?_
  refine lv_iadd XC.hx XC.hb dL_law_456 ?_
  refine va_sld XC.hx XC.hb hX hbl hbA hS hi1 dL_law_457 ?_
  refine lv_aload_n XC.hx XC.hb dL_law_458 rfl (lv_at hl 0 rfl) ?_
  refine lv_iload_n XC.hx XC.hb dL_law_459 rfl (lv_at hl 3 rfl) ?_
  refine lv_iconst (v := 2) XC.hx XC.hb dL_law_460 (by decide) ?_
  refine lv_iadd XC.hx XC.hb dL_law_461 ?_
  refine va_sld XC.hx XC.hb hX hbl hbA hS hi2 dL_law_462 ?_
  refine gl_callI (As := [.int (xs (x3 + 1).toNatClampNeg), .int (xs (x3 + 2).toNatClampNeg)]) (rest := []) XC (kX5_plan l (o := 0) rfl e1) (C := RX5) (T := TX5) (N := 14) (ci := 5) rfl rfl ⟨cdX5_plan, mlL_64, imX5_plan, seX5_plan, iniX5⟩ hvX5_plan ⟨Nat.le_of_ble_eq_true rfl, Nat.le_of_ble_eq_true rfl⟩ hC hS lw_aC XM.hD hM lw_dCM hl rfl rfl (Nat.le_of_ble_eq_true rfl) ⟨Nat.le_refl _, Nat.le_refl _⟩ dL_law_463 (fun H locs hC hM hS => ?_)
  refine lv_aload_n XC.hx XC.hb dL_law_466 rfl (lv_at hl 2 rfl) ?_
  refine lv_aload_n XC.hx XC.hb dL_law_467 rfl (lv_at hl 0 rfl) ?_
  refine lv_iload_n XC.hx XC.hb dL_law_468 rfl (lv_at hl 3 rfl) ?_
  refine lv_iconst (v := 1) XC.hx XC.hb dL_law_469 (by decide) ?_
  refine lv_iadd XC.hx XC.hb dL_law_470 ?_
  refine va_sld XC.hx XC.hb hX hbl hbA hS hi1 dL_law_471 ?_
  refine lv_aload_n XC.hx XC.hb dL_law_472 rfl (lv_at hl 0 rfl) ?_
  refine lv_iload_n XC.hx XC.hb dL_law_473 rfl (lv_at hl 3 rfl) ?_
  refine lv_iconst (v := 2) XC.hx XC.hb dL_law_474 (by decide) ?_
  refine lv_iadd XC.hx XC.hb dL_law_475 ?_
  refine va_sld XC.hx XC.hb hX hbl hbA hS hi2 dL_law_476 ?_
  refine gl_callI (As := [.int (xs (x3 + 1).toNatClampNeg), .int (xs (x3 + 2).toNatClampNeg)]) (rest := [.int r]) XM (kX6_plan l (o := 0) rfl e2) (C := RX6) (T := TX6) (N := 39) (ci := 6) rfl rfl ⟨cdX6_plan, mlL_67, imX6_plan, seX6_plan, iniX6⟩ hvX6_plan ⟨Nat.le_of_ble_eq_true rfl, Nat.le_of_ble_eq_true rfl⟩ hM hS lw_aM XC.hD hC lw_dMC hl rfl rfl (Nat.le_of_ble_eq_true rfl) ⟨Nat.le_refl _, Nat.le_refl _⟩ dL_law_477 (fun H locs hM hC hS => ?_)
  refine lv_icmp_eq (tgt := 955) XC.hx XC.hb dL_law_480 (by decide) (fun _ => ?_) (fun c_ => absurd (rfl) c_)
  exact kk σ' τ' hR _ _ hC hM hS
set_option maxHeartbeats 4000000 in
set_option maxRecDepth 100000 in
theorem lw_case13 {p : Program} {l : Launch} {e : Env} {s : State} {m : MethodId} {below : List Frame} {meth : Method} {c : Code} {b L : Nat} {xs : Nat → Int32} {D : va_G} {ca : Nat → ClassId} (S0 : lwS p s m meth c b L xs D ca) {i : Nat} {x3 : Int32} (hi4 : i + 4 ≤ L) (ex : x3 = nI i) {σ τ : Mem} (hR : Rel σ τ) {H : Heap} {locs : List Loc} (hC : gH (GC D ca s.heap.size) σ H) (hM : gH (GM D ca (s.heap.size + 69)) τ H) (hS : va_S (fun q : Nat => s.heap.size ≤ q) s.heap H locs) {ls : Array Slot} (hl : lv_has ls 4 [(0, .ref b), (1, .ref (gad (GC D ca s.heap.size) 0 0)), (2, .ref (gad (GM D ca (s.heap.size + 69)) 0 0)), (3, .int x3)])
    (kk : ∀ (σ τ : Mem), Rel σ τ → ∀ (H : Heap) (locs : List Loc), gH (GC D ca s.heap.size) σ H → gH (GM D ca (s.heap.size + 69)) τ H → va_S (fun q : Nat => s.heap.size ≤ q) s.heap H locs → W p l e room_1 s m #[Value.ref b] below meth c H locs 600000 7302250 (lw_Z below #[Value.ref b] s) (F0 m 955 ls [])) : W p l e room_1 s m #[Value.ref b] below meth c H locs 600000 7302250 (lw_Z below #[Value.ref b] s) (F0 m 485 ls []) := by
  obtain ⟨XC, XM, hX, hbl, hL⟩ := S0
  have hbA : ¬ (fun q : Nat => s.heap.size ≤ q) b := Nat.not_le.mpr hbl
  have hi1 : vp_in (x3 + 1) L := by rw [ex, nI_1]; exact vp_in_nI (by omega) (by omega)
  obtain ⟨r, e1, e2⟩ := op_waits hR (xs (x3 + 1).toNatClampNeg)
  refine lv_aload_n XC.hx XC.hb dL_law_485 rfl (lv_at hl 1 rfl) ?_
  refine lv_aload_n XC.hx XC.hb dL_law_486 rfl (lv_at hl 0 rfl) ?_
  refine lv_iload_n XC.hx XC.hb dL_law_487 rfl (lv_at hl 3 rfl) ?_
  refine lv_iconst (v := 1) XC.hx XC.hb dL_law_488 (by decide) ?_
  refine lv_iadd XC.hx XC.hb dL_law_489 ?_
  refine va_sld XC.hx XC.hb hX hbl hbA hS hi1 dL_law_490 ?_
  refine gl_callI (As := [.int (xs (x3 + 1).toNatClampNeg)]) (rest := []) XC (kX5_waits l (o := 0) rfl e1) (C := RX5) (T := TX5) (N := 14) (ci := 5) rfl rfl ⟨cdX5_waits, mlL_68, imX5_waits, seX5_waits, iniX5⟩ hvX5_waits ⟨Nat.le_of_ble_eq_true rfl, Nat.le_of_ble_eq_true rfl⟩ hC hS lw_aC XM.hD hM lw_dCM hl rfl rfl (Nat.le_of_ble_eq_true rfl) ⟨Nat.le_refl _, Nat.le_refl _⟩ dL_law_491 (fun H locs hC hM hS => ?_)
  refine lv_aload_n XC.hx XC.hb dL_law_494 rfl (lv_at hl 2 rfl) ?_
  refine lv_aload_n XC.hx XC.hb dL_law_495 rfl (lv_at hl 0 rfl) ?_
  refine lv_iload_n XC.hx XC.hb dL_law_496 rfl (lv_at hl 3 rfl) ?_
  refine lv_iconst (v := 1) XC.hx XC.hb dL_law_497 (by decide) ?_
  refine lv_iadd XC.hx XC.hb dL_law_498 ?_
  refine va_sld XC.hx XC.hb hX hbl hbA hS hi1 dL_law_499 ?_
  refine gl_callI (As := [.int (xs (x3 + 1).toNatClampNeg)]) (rest := [.int r]) XM (kX6_waits l (o := 0) rfl e2) (C := RX6) (T := TX6) (N := 39) (ci := 6) rfl rfl ⟨cdX6_waits, mlL_71, imX6_waits, seX6_waits, iniX6⟩ hvX6_waits ⟨Nat.le_of_ble_eq_true rfl, Nat.le_of_ble_eq_true rfl⟩ hM hS lw_aM XC.hD hC lw_dMC hl rfl rfl (Nat.le_of_ble_eq_true rfl) ⟨Nat.le_refl _, Nat.le_refl _⟩ dL_law_500 (fun H locs hM hC hS => ?_)
  refine lv_icmp_eq (tgt := 955) XC.hx XC.hb dL_law_503 (by decide) (fun _ => ?_) (fun c_ => absurd (rfl) c_)
  exact kk σ τ hR _ _ hC hM hS
set_option maxHeartbeats 4000000 in
set_option maxRecDepth 100000 in
theorem lw_case14 {p : Program} {l : Launch} {e : Env} {s : State} {m : MethodId} {below : List Frame} {meth : Method} {c : Code} {b L : Nat} {xs : Nat → Int32} {D : va_G} {ca : Nat → ClassId} (S0 : lwS p s m meth c b L xs D ca) {i : Nat} {x3 : Int32} (hi4 : i + 4 ≤ L) (ex : x3 = nI i) {σ τ : Mem} (hR : Rel σ τ) {H : Heap} {locs : List Loc} (hC : gH (GC D ca s.heap.size) σ H) (hM : gH (GM D ca (s.heap.size + 69)) τ H) (hS : va_S (fun q : Nat => s.heap.size ≤ q) s.heap H locs) {ls : Array Slot} (hl : lv_has ls 4 [(0, .ref b), (1, .ref (gad (GC D ca s.heap.size) 0 0)), (2, .ref (gad (GM D ca (s.heap.size + 69)) 0 0)), (3, .int x3)])
    (kk : ∀ (σ τ : Mem), Rel σ τ → ∀ (H : Heap) (locs : List Loc), gH (GC D ca s.heap.size) σ H → gH (GM D ca (s.heap.size + 69)) τ H → va_S (fun q : Nat => s.heap.size ≤ q) s.heap H locs → W p l e room_1 s m #[Value.ref b] below meth c H locs 600000 7302250 (lw_Z below #[Value.ref b] s) (F0 m 955 ls [])) : W p l e room_1 s m #[Value.ref b] below meth c H locs 600000 7302250 (lw_Z below #[Value.ref b] s) (F0 m 508 ls []) := by
  obtain ⟨XC, XM, hX, hbl, hL⟩ := S0
  have hbA : ¬ (fun q : Nat => s.heap.size ≤ q) b := Nat.not_le.mpr hbl
  have hi1 : vp_in (x3 + 1) L := by rw [ex, nI_1]; exact vp_in_nI (by omega) (by omega)
  have hi2 : vp_in (x3 + 2) L := by rw [ex, nI_2]; exact vp_in_nI (by omega) (by omega)
  obtain ⟨r, e1, e2⟩ := op_boat hR (xs (x3 + 1).toNatClampNeg) (xs (x3 + 2).toNatClampNeg)
  refine lv_aload_n XC.hx XC.hb dL_law_508 rfl (lv_at hl 1 rfl) ?_
  refine lv_aload_n XC.hx XC.hb dL_law_509 rfl (lv_at hl 0 rfl) ?_
  refine lv_iload_n XC.hx XC.hb dL_law_510 rfl (lv_at hl 3 rfl) ?_
  refine lv_iconst (v := 1) XC.hx XC.hb dL_law_511 (by decide) ?_
  refine lv_iadd XC.hx XC.hb dL_law_512 ?_
  refine va_sld XC.hx XC.hb hX hbl hbA hS hi1 dL_law_513 ?_
  refine lv_aload_n XC.hx XC.hb dL_law_514 rfl (lv_at hl 0 rfl) ?_
  refine lv_iload_n XC.hx XC.hb dL_law_515 rfl (lv_at hl 3 rfl) ?_
  refine lv_iconst (v := 2) XC.hx XC.hb dL_law_516 (by decide) ?_
  refine lv_iadd XC.hx XC.hb dL_law_517 ?_
  refine va_sld XC.hx XC.hb hX hbl hbA hS hi2 dL_law_518 ?_
  refine gl_callI (As := [.int (xs (x3 + 1).toNatClampNeg), .int (xs (x3 + 2).toNatClampNeg)]) (rest := []) XC (kX5_boat l (o := 0) rfl e1) (C := RX5) (T := TX5) (N := 14) (ci := 5) rfl rfl ⟨cdX5_boat, mlL_72, imX5_boat, seX5_boat, iniX5⟩ hvX5_boat ⟨Nat.le_of_ble_eq_true rfl, Nat.le_of_ble_eq_true rfl⟩ hC hS lw_aC XM.hD hM lw_dCM hl rfl rfl (Nat.le_of_ble_eq_true rfl) ⟨Nat.le_refl _, Nat.le_refl _⟩ dL_law_519 (fun H locs hC hM hS => ?_)
  refine lv_aload_n XC.hx XC.hb dL_law_522 rfl (lv_at hl 2 rfl) ?_
  refine lv_aload_n XC.hx XC.hb dL_law_523 rfl (lv_at hl 0 rfl) ?_
  refine lv_iload_n XC.hx XC.hb dL_law_524 rfl (lv_at hl 3 rfl) ?_
  refine lv_iconst (v := 1) XC.hx XC.hb dL_law_525 (by decide) ?_
  refine lv_iadd XC.hx XC.hb dL_law_526 ?_
  refine va_sld XC.hx XC.hb hX hbl hbA hS hi1 dL_law_527 ?_
  refine lv_aload_n XC.hx XC.hb dL_law_528 rfl (lv_at hl 0 rfl) ?_
  refine lv_iload_n XC.hx XC.hb dL_law_529 rfl (lv_at hl 3 rfl) ?_
  refine lv_iconst (v := 2) XC.hx XC.hb dL_law_530 (by decide) ?_
  refine lv_iadd XC.hx XC.hb dL_law_531 ?_
  refine va_sld XC.hx XC.hb hX hbl hbA hS hi2 dL_law_532 ?_
  refine gl_callI (As := [.int (xs (x3 + 1).toNatClampNeg), .int (xs (x3 + 2).toNatClampNeg)]) (rest := [.int r]) XM (kX6_boat l (o := 0) rfl e2) (C := RX6) (T := TX6) (N := 39) (ci := 6) rfl rfl ⟨cdX6_boat, mlL_75, imX6_boat, seX6_boat, iniX6⟩ hvX6_boat ⟨Nat.le_of_ble_eq_true rfl, Nat.le_of_ble_eq_true rfl⟩ hM hS lw_aM XC.hD hC lw_dMC hl rfl rfl (Nat.le_of_ble_eq_true rfl) ⟨Nat.le_refl _, Nat.le_refl _⟩ dL_law_533 (fun H locs hM hC hS => ?_)
  refine lv_icmp_eq (tgt := 955) XC.hx XC.hb dL_law_536 (by decide) (fun _ => ?_) (fun c_ => absurd (rfl) c_)
  exact kk σ τ hR _ _ hC hM hS
set_option maxHeartbeats 4000000 in
set_option maxRecDepth 100000 in
theorem lw_case15 {p : Program} {l : Launch} {e : Env} {s : State} {m : MethodId} {below : List Frame} {meth : Method} {c : Code} {b L : Nat} {xs : Nat → Int32} {D : va_G} {ca : Nat → ClassId} (S0 : lwS p s m meth c b L xs D ca) {i : Nat} {x3 : Int32} (hi4 : i + 4 ≤ L) (ex : x3 = nI i) {σ τ : Mem} (hR : Rel σ τ) {H : Heap} {locs : List Loc} (hC : gH (GC D ca s.heap.size) σ H) (hM : gH (GM D ca (s.heap.size + 69)) τ H) (hS : va_S (fun q : Nat => s.heap.size ≤ q) s.heap H locs) {ls : Array Slot} (hl : lv_has ls 4 [(0, .ref b), (1, .ref (gad (GC D ca s.heap.size) 0 0)), (2, .ref (gad (GM D ca (s.heap.size + 69)) 0 0)), (3, .int x3)])
    (kk : ∀ (σ τ : Mem), Rel σ τ → ∀ (H : Heap) (locs : List Loc), gH (GC D ca s.heap.size) σ H → gH (GM D ca (s.heap.size + 69)) τ H → va_S (fun q : Nat => s.heap.size ≤ q) s.heap H locs → W p l e room_1 s m #[Value.ref b] below meth c H locs 600000 7302250 (lw_Z below #[Value.ref b] s) (F0 m 955 ls [])) : W p l e room_1 s m #[Value.ref b] below meth c H locs 600000 7302250 (lw_Z below #[Value.ref b] s) (F0 m 541 ls []) := by
  obtain ⟨XC, XM, hX, hbl, hL⟩ := S0
  have hbA : ¬ (fun q : Nat => s.heap.size ≤ q) b := Nat.not_le.mpr hbl
  have hi1 : vp_in (x3 + 1) L := by rw [ex, nI_1]; exact vp_in_nI (by omega) (by omega)
  have hi2 : vp_in (x3 + 2) L := by rw [ex, nI_2]; exact vp_in_nI (by omega) (by omega)
  obtain ⟨r, e1, e2⟩ := op_clean hR (xs (x3 + 1).toNatClampNeg) (xs (x3 + 2).toNatClampNeg)
  refine lv_aload_n XC.hx XC.hb dL_law_541 rfl (lv_at hl 1 rfl) ?_
  refine lv_aload_n XC.hx XC.hb dL_law_542 rfl (lv_at hl 0 rfl) ?_
  refine lv_iload_n XC.hx XC.hb dL_law_543 rfl (lv_at hl 3 rfl) ?_
  refine lv_iconst (v := 1) XC.hx XC.hb dL_law_544 (by decide) ?_
  refine lv_iadd XC.hx XC.hb dL_law_545 ?_
  refine va_sld XC.hx XC.hb hX hbl hbA hS hi1 dL_law_546 ?_
  refine lv_aload_n XC.hx XC.hb dL_law_547 rfl (lv_at hl 0 rfl) ?_
  refine lv_iload_n XC.hx XC.hb dL_law_548 rfl (lv_at hl 3 rfl) ?_
  refine lv_iconst (v := 2) XC.hx XC.hb dL_law_549 (by decide) ?_
  refine lv_iadd XC.hx XC.hb dL_law_550 ?_
  refine va_sld XC.hx XC.hb hX hbl hbA hS hi2 dL_law_551 ?_
  refine gl_callL (As := [.int (xs (x3 + 1).toNatClampNeg), .int (xs (x3 + 2).toNatClampNeg)]) (rest := []) XC (kX5_clean l (o := 0) rfl e1) (C := RX5) (T := TX5) (N := 14) (ci := 5) rfl rfl ⟨cdX5_clean, mlL_76, imX5_clean, seX5_clean, iniX5⟩ hvX5_clean ⟨Nat.le_of_ble_eq_true rfl, Nat.le_of_ble_eq_true rfl⟩ hC hS lw_aC XM.hD hM lw_dCM hl rfl rfl (Nat.le_of_ble_eq_true rfl) ⟨Nat.le_refl _, Nat.le_refl _⟩ dL_law_552 (fun H locs hC hM hS => ?_)
  refine lv_aload_n XC.hx XC.hb dL_law_555 rfl (lv_at hl 2 rfl) ?_
  refine lv_aload_n XC.hx XC.hb dL_law_556 rfl (lv_at hl 0 rfl) ?_
  refine lv_iload_n XC.hx XC.hb dL_law_557 rfl (lv_at hl 3 rfl) ?_
  refine lv_iconst (v := 1) XC.hx XC.hb dL_law_558 (by decide) ?_
  refine lv_iadd XC.hx XC.hb dL_law_559 ?_
  refine va_sld XC.hx XC.hb hX hbl hbA hS hi1 dL_law_560 ?_
  refine lv_aload_n XC.hx XC.hb dL_law_561 rfl (lv_at hl 0 rfl) ?_
  refine lv_iload_n XC.hx XC.hb dL_law_562 rfl (lv_at hl 3 rfl) ?_
  refine lv_iconst (v := 2) XC.hx XC.hb dL_law_563 (by decide) ?_
  refine lv_iadd XC.hx XC.hb dL_law_564 ?_
  refine va_sld XC.hx XC.hb hX hbl hbA hS hi2 dL_law_565 ?_
  refine gl_callL (As := [.int (xs (x3 + 1).toNatClampNeg), .int (xs (x3 + 2).toNatClampNeg)]) (rest := [.long r]) XM (kX6_clean l (o := 0) rfl e2) (C := RX6) (T := TX6) (N := 39) (ci := 6) rfl rfl ⟨cdX6_clean, mlL_80, imX6_clean, seX6_clean, iniX6⟩ hvX6_clean ⟨Nat.le_of_ble_eq_true rfl, Nat.le_of_ble_eq_true rfl⟩ hM hS lw_aM XC.hD hC lw_dMC hl rfl rfl (Nat.le_of_ble_eq_true rfl) ⟨Nat.le_refl _, Nat.le_refl _⟩ dL_law_566 (fun H locs hM hC hS => ?_)
  refine W.lcmp XC.hx XC.hb dL_law_569 ?_
  refine lv_if_eq (tgt := 955) XC.hx XC.hb dL_law_570 (by decide) (fun _ => ?_) (fun c_ => absurd (lg_cmp_self _) c_)
  exact kk σ τ hR _ _ hC hM hS
set_option maxHeartbeats 4000000 in
set_option maxRecDepth 100000 in
theorem lw_case16 {p : Program} {l : Launch} {e : Env} {s : State} {m : MethodId} {below : List Frame} {meth : Method} {c : Code} {b L : Nat} {xs : Nat → Int32} {D : va_G} {ca : Nat → ClassId} (S0 : lwS p s m meth c b L xs D ca) {i : Nat} {x3 : Int32} (hi4 : i + 4 ≤ L) (ex : x3 = nI i) {σ τ : Mem} (hR : Rel σ τ) {H : Heap} {locs : List Loc} (hC : gH (GC D ca s.heap.size) σ H) (hM : gH (GM D ca (s.heap.size + 69)) τ H) (hS : va_S (fun q : Nat => s.heap.size ≤ q) s.heap H locs) {ls : Array Slot} (hl : lv_has ls 4 [(0, .ref b), (1, .ref (gad (GC D ca s.heap.size) 0 0)), (2, .ref (gad (GM D ca (s.heap.size + 69)) 0 0)), (3, .int x3)])
    (kk : ∀ (σ τ : Mem), Rel σ τ → ∀ (H : Heap) (locs : List Loc), gH (GC D ca s.heap.size) σ H → gH (GM D ca (s.heap.size + 69)) τ H → va_S (fun q : Nat => s.heap.size ≤ q) s.heap H locs → W p l e room_1 s m #[Value.ref b] below meth c H locs 600000 7302250 (lw_Z below #[Value.ref b] s) (F0 m 955 ls [])) : W p l e room_1 s m #[Value.ref b] below meth c H locs 600000 7302250 (lw_Z below #[Value.ref b] s) (F0 m 575 ls []) := by
  obtain ⟨XC, XM, hX, hbl, hL⟩ := S0
  have hbA : ¬ (fun q : Nat => s.heap.size ≤ q) b := Nat.not_le.mpr hbl
  have hi1 : vp_in (x3 + 1) L := by rw [ex, nI_1]; exact vp_in_nI (by omega) (by omega)
  have hi2 : vp_in (x3 + 2) L := by rw [ex, nI_2]; exact vp_in_nI (by omega) (by omega)
  have hi3 : vp_in (x3 + 3) L := by rw [ex, nI_3]; exact vp_in_nI (by omega) (by omega)
  obtain ⟨r, σ', τ', e1, e2, hR⟩ := op_well hR (xs (x3 + 1).toNatClampNeg) (xs (x3 + 2).toNatClampNeg) (xs (x3 + 3).toNatClampNeg)
  refine lv_aload_n XC.hx XC.hb dL_law_575 rfl (lv_at hl 1 rfl) ?_
  refine lv_aload_n XC.hx XC.hb dL_law_576 rfl (lv_at hl 0 rfl) ?_
  refine lv_iload_n XC.hx XC.hb dL_law_577 rfl (lv_at hl 3 rfl) ?_
  refine lv_iconst (v := 1) XC.hx XC.hb dL_law_578 (by decide) ?_
  refine lv_iadd XC.hx XC.hb dL_law_579 ?_
  refine va_sld XC.hx XC.hb hX hbl hbA hS hi1 dL_law_580 ?_
  refine lv_aload_n XC.hx XC.hb dL_law_581 rfl (lv_at hl 0 rfl) ?_
  refine lv_iload_n XC.hx XC.hb dL_law_582 rfl (lv_at hl 3 rfl) ?_
  refine lv_iconst (v := 2) XC.hx XC.hb dL_law_583 (by decide) ?_
  refine lv_iadd XC.hx XC.hb dL_law_584 ?_
  refine va_sld XC.hx XC.hb hX hbl hbA hS hi2 dL_law_585 ?_
  refine lv_aload_n XC.hx XC.hb dL_law_586 rfl (lv_at hl 0 rfl) ?_
  refine lv_iload_n XC.hx XC.hb dL_law_587 rfl (lv_at hl 3 rfl) ?_
  refine lv_iconst (v := 3) XC.hx XC.hb dL_law_588 (by decide) ?_
  refine lv_iadd XC.hx XC.hb dL_law_589 ?_
  refine va_sld XC.hx XC.hb hX hbl hbA hS hi3 dL_law_590 ?_
  refine gl_callL (As := [.int (xs (x3 + 1).toNatClampNeg), .int (xs (x3 + 2).toNatClampNeg), .int (xs (x3 + 3).toNatClampNeg)]) (rest := []) XC (kX5_well l (o := 0) rfl e1) (C := RX5) (T := TX5) (N := 14) (ci := 5) rfl rfl ⟨cdX5_well, mlL_81, imX5_well, seX5_well, iniX5⟩ hvX5_well ⟨Nat.le_of_ble_eq_true rfl, Nat.le_of_ble_eq_true rfl⟩ hC hS lw_aC XM.hD hM lw_dCM hl rfl rfl (Nat.le_of_ble_eq_true rfl) ⟨Nat.le_refl _, Nat.le_refl _⟩ dL_law_591 (fun H locs hC hM hS => ?_)
  refine lv_aload_n XC.hx XC.hb dL_law_594 rfl (lv_at hl 2 rfl) ?_
  refine lv_aload_n XC.hx XC.hb dL_law_595 rfl (lv_at hl 0 rfl) ?_
  refine lv_iload_n XC.hx XC.hb dL_law_596 rfl (lv_at hl 3 rfl) ?_
  refine lv_iconst (v := 1) XC.hx XC.hb dL_law_597 (by decide) ?_
  refine lv_iadd XC.hx XC.hb dL_law_598 ?_
  refine va_sld XC.hx XC.hb hX hbl hbA hS hi1 dL_law_599 ?_
  refine lv_aload_n XC.hx XC.hb dL_law_600 rfl (lv_at hl 0 rfl) ?_
  refine lv_iload_n XC.hx XC.hb dL_law_601 rfl (lv_at hl 3 rfl) ?_
  refine lv_iconst (v := 2) XC.hx XC.hb dL_law_602 (by decide) ?_
  refine lv_iadd XC.hx XC.hb dL_law_603 ?_
  refine va_sld XC.hx XC.hb hX hbl hbA hS hi2 dL_law_604 ?_
  refine lv_aload_n XC.hx XC.hb dL_law_605 rfl (lv_at hl 0 rfl) ?_
  refine lv_iload_n XC.hx XC.hb dL_law_606 rfl (lv_at hl 3 rfl) ?_
  refine lv_iconst (v := 3) XC.hx XC.hb dL_law_607 (by decide) ?_
  refine lv_iadd XC.hx XC.hb dL_law_608 ?_
  refine va_sld XC.hx XC.hb hX hbl hbA hS hi3 dL_law_609 ?_
  refine gl_callL (As := [.int (xs (x3 + 1).toNatClampNeg), .int (xs (x3 + 2).toNatClampNeg), .int (xs (x3 + 3).toNatClampNeg)]) (rest := [.long r]) XM (kX6_well l (o := 0) rfl e2) (C := RX6) (T := TX6) (N := 39) (ci := 6) rfl rfl ⟨cdX6_well, mlL_85, imX6_well, seX6_well, iniX6⟩ hvX6_well ⟨Nat.le_of_ble_eq_true rfl, Nat.le_of_ble_eq_true rfl⟩ hM hS lw_aM XC.hD hC lw_dMC hl rfl rfl (Nat.le_of_ble_eq_true rfl) ⟨Nat.le_refl _, Nat.le_refl _⟩ dL_law_610 (fun H locs hM hC hS => ?_)
  refine W.lcmp XC.hx XC.hb dL_law_613 ?_
  refine lv_if_eq (tgt := 955) XC.hx XC.hb dL_law_614 (by decide) (fun _ => ?_) (fun c_ => absurd (lg_cmp_self _) c_)
  exact kk σ' τ' hR _ _ hC hM hS
set_option maxHeartbeats 4000000 in
set_option maxRecDepth 100000 in
theorem lw_case17 {p : Program} {l : Launch} {e : Env} {s : State} {m : MethodId} {below : List Frame} {meth : Method} {c : Code} {b L : Nat} {xs : Nat → Int32} {D : va_G} {ca : Nat → ClassId} (S0 : lwS p s m meth c b L xs D ca) {i : Nat} {x3 : Int32} (hi4 : i + 4 ≤ L) (ex : x3 = nI i) {σ τ : Mem} (hR : Rel σ τ) {H : Heap} {locs : List Loc} (hC : gH (GC D ca s.heap.size) σ H) (hM : gH (GM D ca (s.heap.size + 69)) τ H) (hS : va_S (fun q : Nat => s.heap.size ≤ q) s.heap H locs) {ls : Array Slot} (hl : lv_has ls 4 [(0, .ref b), (1, .ref (gad (GC D ca s.heap.size) 0 0)), (2, .ref (gad (GM D ca (s.heap.size + 69)) 0 0)), (3, .int x3)])
    (kk : ∀ (σ τ : Mem), Rel σ τ → ∀ (H : Heap) (locs : List Loc), gH (GC D ca s.heap.size) σ H → gH (GM D ca (s.heap.size + 69)) τ H → va_S (fun q : Nat => s.heap.size ≤ q) s.heap H locs → W p l e room_1 s m #[Value.ref b] below meth c H locs 600000 7302250 (lw_Z below #[Value.ref b] s) (F0 m 955 ls [])) : W p l e room_1 s m #[Value.ref b] below meth c H locs 600000 7302250 (lw_Z below #[Value.ref b] s) (F0 m 619 ls []) := by
  obtain ⟨XC, XM, hX, hbl, hL⟩ := S0
  have hbA : ¬ (fun q : Nat => s.heap.size ≤ q) b := Nat.not_le.mpr hbl
  have hi1 : vp_in (x3 + 1) L := by rw [ex, nI_1]; exact vp_in_nI (by omega) (by omega)
  obtain ⟨r, σ', τ', e1, e2, hR⟩ := op_writes hR (xs (x3 + 1).toNatClampNeg)
  refine lv_aload_n XC.hx XC.hb dL_law_619 rfl (lv_at hl 1 rfl) ?_
  refine lv_aload_n XC.hx XC.hb dL_law_620 rfl (lv_at hl 0 rfl) ?_
  refine lv_iload_n XC.hx XC.hb dL_law_621 rfl (lv_at hl 3 rfl) ?_
  refine lv_iconst (v := 1) XC.hx XC.hb dL_law_622 (by decide) ?_
  refine lv_iadd XC.hx XC.hb dL_law_623 ?_
  refine va_sld XC.hx XC.hb hX hbl hbA hS hi1 dL_law_624 ?_
  refine gl_callI (As := [.int (xs (x3 + 1).toNatClampNeg)]) (rest := []) XC (kX5_writes l (o := 0) rfl e1) (C := RX5) (T := TX5) (N := 14) (ci := 5) rfl rfl ⟨cdX5_writes, mlL_86, imX5_writes, seX5_writes, iniX5⟩ hvX5_writes ⟨Nat.le_of_ble_eq_true rfl, Nat.le_of_ble_eq_true rfl⟩ hC hS lw_aC XM.hD hM lw_dCM hl rfl rfl (Nat.le_of_ble_eq_true rfl) ⟨Nat.le_refl _, Nat.le_refl _⟩ dL_law_625 (fun H locs hC hM hS => ?_)
  refine lv_aload_n XC.hx XC.hb dL_law_628 rfl (lv_at hl 2 rfl) ?_
  refine lv_aload_n XC.hx XC.hb dL_law_629 rfl (lv_at hl 0 rfl) ?_
  refine lv_iload_n XC.hx XC.hb dL_law_630 rfl (lv_at hl 3 rfl) ?_
  refine lv_iconst (v := 1) XC.hx XC.hb dL_law_631 (by decide) ?_
  refine lv_iadd XC.hx XC.hb dL_law_632 ?_
  refine va_sld XC.hx XC.hb hX hbl hbA hS hi1 dL_law_633 ?_
  refine gl_callI (As := [.int (xs (x3 + 1).toNatClampNeg)]) (rest := [.int r]) XM (kX6_writes l (o := 0) rfl e2) (C := RX6) (T := TX6) (N := 39) (ci := 6) rfl rfl ⟨cdX6_writes, mlL_89, imX6_writes, seX6_writes, iniX6⟩ hvX6_writes ⟨Nat.le_of_ble_eq_true rfl, Nat.le_of_ble_eq_true rfl⟩ hM hS lw_aM XC.hD hC lw_dMC hl rfl rfl (Nat.le_of_ble_eq_true rfl) ⟨Nat.le_refl _, Nat.le_refl _⟩ dL_law_634 (fun H locs hM hC hS => ?_)
  refine lv_icmp_eq (tgt := 955) XC.hx XC.hb dL_law_637 (by decide) (fun _ => ?_) (fun c_ => absurd (rfl) c_)
  exact kk σ' τ' hR _ _ hC hM hS
set_option maxHeartbeats 4000000 in
set_option maxRecDepth 100000 in
theorem lw_case18 {p : Program} {l : Launch} {e : Env} {s : State} {m : MethodId} {below : List Frame} {meth : Method} {c : Code} {b L : Nat} {xs : Nat → Int32} {D : va_G} {ca : Nat → ClassId} (S0 : lwS p s m meth c b L xs D ca) {i : Nat} {x3 : Int32} (hi4 : i + 4 ≤ L) (ex : x3 = nI i) {σ τ : Mem} (hR : Rel σ τ) {H : Heap} {locs : List Loc} (hC : gH (GC D ca s.heap.size) σ H) (hM : gH (GM D ca (s.heap.size + 69)) τ H) (hS : va_S (fun q : Nat => s.heap.size ≤ q) s.heap H locs) {ls : Array Slot} (hl : lv_has ls 4 [(0, .ref b), (1, .ref (gad (GC D ca s.heap.size) 0 0)), (2, .ref (gad (GM D ca (s.heap.size + 69)) 0 0)), (3, .int x3)])
    (kk : ∀ (σ τ : Mem), Rel σ τ → ∀ (H : Heap) (locs : List Loc), gH (GC D ca s.heap.size) σ H → gH (GM D ca (s.heap.size + 69)) τ H → va_S (fun q : Nat => s.heap.size ≤ q) s.heap H locs → W p l e room_1 s m #[Value.ref b] below meth c H locs 600000 7302250 (lw_Z below #[Value.ref b] s) (F0 m 955 ls [])) : W p l e room_1 s m #[Value.ref b] below meth c H locs 600000 7302250 (lw_Z below #[Value.ref b] s) (F0 m 642 ls []) := by
  obtain ⟨XC, XM, hX, hbl, hL⟩ := S0
  have hbA : ¬ (fun q : Nat => s.heap.size ≤ q) b := Nat.not_le.mpr hbl
  obtain ⟨r, σ', τ', e1, e2, hR⟩ := op_tears hR 
  refine lv_aload_n XC.hx XC.hb dL_law_642 rfl (lv_at hl 1 rfl) ?_
  refine gl_callI (As := []) (rest := []) XC (kX5_tears l (o := 0) rfl e1) (C := RX5) (T := TX5) (N := 14) (ci := 5) rfl rfl ⟨cdX5_tears, mlL_90, imX5_tears, seX5_tears, iniX5⟩ hvX5_tears ⟨Nat.le_of_ble_eq_true rfl, Nat.le_of_ble_eq_true rfl⟩ hC hS lw_aC XM.hD hM lw_dCM hl rfl rfl (Nat.le_of_ble_eq_true rfl) ⟨Nat.le_refl _, Nat.le_refl _⟩ dL_law_643 (fun H locs hC hM hS => ?_)
  refine lv_aload_n XC.hx XC.hb dL_law_646 rfl (lv_at hl 2 rfl) ?_
  refine gl_callI (As := []) (rest := [.int r]) XM (kX6_tears l (o := 0) rfl e2) (C := RX6) (T := TX6) (N := 39) (ci := 6) rfl rfl ⟨cdX6_tears, mlL_93, imX6_tears, seX6_tears, iniX6⟩ hvX6_tears ⟨Nat.le_of_ble_eq_true rfl, Nat.le_of_ble_eq_true rfl⟩ hM hS lw_aM XC.hD hC lw_dMC hl rfl rfl (Nat.le_of_ble_eq_true rfl) ⟨Nat.le_refl _, Nat.le_refl _⟩ dL_law_647 (fun H locs hM hC hS => ?_)
  refine lv_icmp_eq (tgt := 955) XC.hx XC.hb dL_law_650 (by decide) (fun _ => ?_) (fun c_ => absurd (rfl) c_)
  exact kk σ' τ' hR _ _ hC hM hS
set_option maxHeartbeats 4000000 in
set_option maxRecDepth 100000 in
theorem lw_case19 {p : Program} {l : Launch} {e : Env} {s : State} {m : MethodId} {below : List Frame} {meth : Method} {c : Code} {b L : Nat} {xs : Nat → Int32} {D : va_G} {ca : Nat → ClassId} (S0 : lwS p s m meth c b L xs D ca) {i : Nat} {x3 : Int32} (hi4 : i + 4 ≤ L) (ex : x3 = nI i) {σ τ : Mem} (hR : Rel σ τ) {H : Heap} {locs : List Loc} (hC : gH (GC D ca s.heap.size) σ H) (hM : gH (GM D ca (s.heap.size + 69)) τ H) (hS : va_S (fun q : Nat => s.heap.size ≤ q) s.heap H locs) {ls : Array Slot} (hl : lv_has ls 4 [(0, .ref b), (1, .ref (gad (GC D ca s.heap.size) 0 0)), (2, .ref (gad (GM D ca (s.heap.size + 69)) 0 0)), (3, .int x3)])
    (kk : ∀ (σ τ : Mem), Rel σ τ → ∀ (H : Heap) (locs : List Loc), gH (GC D ca s.heap.size) σ H → gH (GM D ca (s.heap.size + 69)) τ H → va_S (fun q : Nat => s.heap.size ≤ q) s.heap H locs → W p l e room_1 s m #[Value.ref b] below meth c H locs 600000 7302250 (lw_Z below #[Value.ref b] s) (F0 m 955 ls [])) : W p l e room_1 s m #[Value.ref b] below meth c H locs 600000 7302250 (lw_Z below #[Value.ref b] s) (F0 m 655 ls []) := by
  obtain ⟨XC, XM, hX, hbl, hL⟩ := S0
  have hbA : ¬ (fun q : Nat => s.heap.size ≤ q) b := Nat.not_le.mpr hbl
  have hi1 : vp_in (x3 + 1) L := by rw [ex, nI_1]; exact vp_in_nI (by omega) (by omega)
  obtain ⟨r, σ', τ', e1, e2, hR⟩ := op_smokes hR (xs (x3 + 1).toNatClampNeg)
  refine lv_aload_n XC.hx XC.hb dL_law_655 rfl (lv_at hl 1 rfl) ?_
  refine lv_aload_n XC.hx XC.hb dL_law_656 rfl (lv_at hl 0 rfl) ?_
  refine lv_iload_n XC.hx XC.hb dL_law_657 rfl (lv_at hl 3 rfl) ?_
  refine lv_iconst (v := 1) XC.hx XC.hb dL_law_658 (by decide) ?_
  refine lv_iadd XC.hx XC.hb dL_law_659 ?_
  refine va_sld XC.hx XC.hb hX hbl hbA hS hi1 dL_law_660 ?_
  refine gl_callI (As := [.int (xs (x3 + 1).toNatClampNeg)]) (rest := []) XC (kX5_smokes l (o := 0) rfl e1) (C := RX5) (T := TX5) (N := 14) (ci := 5) rfl rfl ⟨cdX5_smokes, mlL_94, imX5_smokes, seX5_smokes, iniX5⟩ hvX5_smokes ⟨Nat.le_of_ble_eq_true rfl, Nat.le_of_ble_eq_true rfl⟩ hC hS lw_aC XM.hD hM lw_dCM hl rfl rfl (Nat.le_of_ble_eq_true rfl) ⟨Nat.le_refl _, Nat.le_refl _⟩ dL_law_661 (fun H locs hC hM hS => ?_)
  refine lv_aload_n XC.hx XC.hb dL_law_664 rfl (lv_at hl 2 rfl) ?_
  refine lv_aload_n XC.hx XC.hb dL_law_665 rfl (lv_at hl 0 rfl) ?_
  refine lv_iload_n XC.hx XC.hb dL_law_666 rfl (lv_at hl 3 rfl) ?_
  refine lv_iconst (v := 1) XC.hx XC.hb dL_law_667 (by decide) ?_
  refine lv_iadd XC.hx XC.hb dL_law_668 ?_
  refine va_sld XC.hx XC.hb hX hbl hbA hS hi1 dL_law_669 ?_
  refine gl_callI (As := [.int (xs (x3 + 1).toNatClampNeg)]) (rest := [.int r]) XM (kX6_smokes l (o := 0) rfl e2) (C := RX6) (T := TX6) (N := 39) (ci := 6) rfl rfl ⟨cdX6_smokes, mlL_97, imX6_smokes, seX6_smokes, iniX6⟩ hvX6_smokes ⟨Nat.le_of_ble_eq_true rfl, Nat.le_of_ble_eq_true rfl⟩ hM hS lw_aM XC.hD hC lw_dMC hl rfl rfl (Nat.le_of_ble_eq_true rfl) ⟨Nat.le_refl _, Nat.le_refl _⟩ dL_law_670 (fun H locs hM hC hS => ?_)
  refine lv_icmp_eq (tgt := 955) XC.hx XC.hb dL_law_673 (by decide) (fun _ => ?_) (fun c_ => absurd (rfl) c_)
  exact kk σ' τ' hR _ _ hC hM hS
set_option maxHeartbeats 4000000 in
set_option maxRecDepth 100000 in
theorem lw_case20 {p : Program} {l : Launch} {e : Env} {s : State} {m : MethodId} {below : List Frame} {meth : Method} {c : Code} {b L : Nat} {xs : Nat → Int32} {D : va_G} {ca : Nat → ClassId} (S0 : lwS p s m meth c b L xs D ca) {i : Nat} {x3 : Int32} (hi4 : i + 4 ≤ L) (ex : x3 = nI i) {σ τ : Mem} (hR : Rel σ τ) {H : Heap} {locs : List Loc} (hC : gH (GC D ca s.heap.size) σ H) (hM : gH (GM D ca (s.heap.size + 69)) τ H) (hS : va_S (fun q : Nat => s.heap.size ≤ q) s.heap H locs) {ls : Array Slot} (hl : lv_has ls 4 [(0, .ref b), (1, .ref (gad (GC D ca s.heap.size) 0 0)), (2, .ref (gad (GM D ca (s.heap.size + 69)) 0 0)), (3, .int x3)])
    (kk : ∀ (σ τ : Mem), Rel σ τ → ∀ (H : Heap) (locs : List Loc), gH (GC D ca s.heap.size) σ H → gH (GM D ca (s.heap.size + 69)) τ H → va_S (fun q : Nat => s.heap.size ≤ q) s.heap H locs → W p l e room_1 s m #[Value.ref b] below meth c H locs 600000 7302250 (lw_Z below #[Value.ref b] s) (F0 m 955 ls [])) : W p l e room_1 s m #[Value.ref b] below meth c H locs 600000 7302250 (lw_Z below #[Value.ref b] s) (F0 m 678 ls []) := by
  obtain ⟨XC, XM, hX, hbl, hL⟩ := S0
  have hbA : ¬ (fun q : Nat => s.heap.size ≤ q) b := Nat.not_le.mpr hbl
  have hi1 : vp_in (x3 + 1) L := by rw [ex, nI_1]; exact vp_in_nI (by omega) (by omega)
  obtain ⟨r, e1, e2⟩ := op_word hR (xs (x3 + 1).toNatClampNeg)
  refine lv_aload_n XC.hx XC.hb dL_law_678 rfl (lv_at hl 1 rfl) ?_
  refine lv_aload_n XC.hx XC.hb dL_law_679 rfl (lv_at hl 0 rfl) ?_
  refine lv_iload_n XC.hx XC.hb dL_law_680 rfl (lv_at hl 3 rfl) ?_
  refine lv_iconst (v := 1) XC.hx XC.hb dL_law_681 (by decide) ?_
  refine lv_iadd XC.hx XC.hb dL_law_682 ?_
  refine va_sld XC.hx XC.hb hX hbl hbA hS hi1 dL_law_683 ?_
  refine gl_callI (As := [.int (xs (x3 + 1).toNatClampNeg)]) (rest := []) XC (kX5_word l (o := 0) rfl e1) (C := RX5) (T := TX5) (N := 14) (ci := 5) rfl rfl ⟨cdX5_word, mlL_98, imX5_word, seX5_word, iniX5⟩ hvX5_word ⟨Nat.le_of_ble_eq_true rfl, Nat.le_of_ble_eq_true rfl⟩ hC hS lw_aC XM.hD hM lw_dCM hl rfl rfl (Nat.le_of_ble_eq_true rfl) ⟨Nat.le_refl _, Nat.le_refl _⟩ dL_law_684 (fun H locs hC hM hS => ?_)
  refine lv_aload_n XC.hx XC.hb dL_law_687 rfl (lv_at hl 2 rfl) ?_
  refine lv_aload_n XC.hx XC.hb dL_law_688 rfl (lv_at hl 0 rfl) ?_
  refine lv_iload_n XC.hx XC.hb dL_law_689 rfl (lv_at hl 3 rfl) ?_
  refine lv_iconst (v := 1) XC.hx XC.hb dL_law_690 (by decide) ?_
  refine lv_iadd XC.hx XC.hb dL_law_691 ?_
  refine va_sld XC.hx XC.hb hX hbl hbA hS hi1 dL_law_692 ?_
  refine gl_callI (As := [.int (xs (x3 + 1).toNatClampNeg)]) (rest := [.int r]) XM (kX6_word l (o := 0) rfl e2) (C := RX6) (T := TX6) (N := 39) (ci := 6) rfl rfl ⟨cdX6_word, mlL_101, imX6_word, seX6_word, iniX6⟩ hvX6_word ⟨Nat.le_of_ble_eq_true rfl, Nat.le_of_ble_eq_true rfl⟩ hM hS lw_aM XC.hD hC lw_dMC hl rfl rfl (Nat.le_of_ble_eq_true rfl) ⟨Nat.le_refl _, Nat.le_refl _⟩ dL_law_693 (fun H locs hM hC hS => ?_)
  refine lv_icmp_eq (tgt := 955) XC.hx XC.hb dL_law_696 (by decide) (fun _ => ?_) (fun c_ => absurd (rfl) c_)
  exact kk σ τ hR _ _ hC hM hS
set_option maxHeartbeats 4000000 in
set_option maxRecDepth 100000 in
theorem lw_case21 {p : Program} {l : Launch} {e : Env} {s : State} {m : MethodId} {below : List Frame} {meth : Method} {c : Code} {b L : Nat} {xs : Nat → Int32} {D : va_G} {ca : Nat → ClassId} (S0 : lwS p s m meth c b L xs D ca) {i : Nat} {x3 : Int32} (hi4 : i + 4 ≤ L) (ex : x3 = nI i) {σ τ : Mem} (hR : Rel σ τ) {H : Heap} {locs : List Loc} (hC : gH (GC D ca s.heap.size) σ H) (hM : gH (GM D ca (s.heap.size + 69)) τ H) (hS : va_S (fun q : Nat => s.heap.size ≤ q) s.heap H locs) {ls : Array Slot} (hl : lv_has ls 4 [(0, .ref b), (1, .ref (gad (GC D ca s.heap.size) 0 0)), (2, .ref (gad (GM D ca (s.heap.size + 69)) 0 0)), (3, .int x3)])
    (kk : ∀ (σ τ : Mem), Rel σ τ → ∀ (H : Heap) (locs : List Loc), gH (GC D ca s.heap.size) σ H → gH (GM D ca (s.heap.size + 69)) τ H → va_S (fun q : Nat => s.heap.size ≤ q) s.heap H locs → W p l e room_1 s m #[Value.ref b] below meth c H locs 600000 7302250 (lw_Z below #[Value.ref b] s) (F0 m 955 ls [])) : W p l e room_1 s m #[Value.ref b] below meth c H locs 600000 7302250 (lw_Z below #[Value.ref b] s) (F0 m 701 ls []) := by
  obtain ⟨XC, XM, hX, hbl, hL⟩ := S0
  have hbA : ¬ (fun q : Nat => s.heap.size ≤ q) b := Nat.not_le.mpr hbl
  have hi1 : vp_in (x3 + 1) L := by rw [ex, nI_1]; exact vp_in_nI (by omega) (by omega)
  obtain ⟨r, σ', τ', e1, e2, hR⟩ := op_brown hR (xs (x3 + 1).toNatClampNeg)
  refine lv_aload_n XC.hx XC.hb dL_law_701 rfl (lv_at hl 1 rfl) ?_
  refine lv_aload_n XC.hx XC.hb dL_law_702 rfl (lv_at hl 0 rfl) ?_
  refine lv_iload_n XC.hx XC.hb dL_law_703 rfl (lv_at hl 3 rfl) ?_
  refine lv_iconst (v := 1) XC.hx XC.hb dL_law_704 (by decide) ?_
  refine lv_iadd XC.hx XC.hb dL_law_705 ?_
  refine va_sld XC.hx XC.hb hX hbl hbA hS hi1 dL_law_706 ?_
  refine gl_callI (As := [.int (xs (x3 + 1).toNatClampNeg)]) (rest := []) XC (kX5_brown l (o := 0) rfl e1) (C := RX5) (T := TX5) (N := 14) (ci := 5) rfl rfl ⟨cdX5_brown, mlL_102, imX5_brown, seX5_brown, iniX5⟩ hvX5_brown ⟨Nat.le_of_ble_eq_true rfl, Nat.le_of_ble_eq_true rfl⟩ hC hS lw_aC XM.hD hM lw_dCM hl rfl rfl (Nat.le_of_ble_eq_true rfl) ⟨Nat.le_refl _, Nat.le_refl _⟩ dL_law_707 (fun H locs hC hM hS => ?_)
  refine lv_aload_n XC.hx XC.hb dL_law_710 rfl (lv_at hl 2 rfl) ?_
  refine lv_aload_n XC.hx XC.hb dL_law_711 rfl (lv_at hl 0 rfl) ?_
  refine lv_iload_n XC.hx XC.hb dL_law_712 rfl (lv_at hl 3 rfl) ?_
  refine lv_iconst (v := 1) XC.hx XC.hb dL_law_713 (by decide) ?_
  refine lv_iadd XC.hx XC.hb dL_law_714 ?_
  refine va_sld XC.hx XC.hb hX hbl hbA hS hi1 dL_law_715 ?_
  refine gl_callI (As := [.int (xs (x3 + 1).toNatClampNeg)]) (rest := [.int r]) XM (kX6_brown l (o := 0) rfl e2) (C := RX6) (T := TX6) (N := 39) (ci := 6) rfl rfl ⟨cdX6_brown, mlL_105, imX6_brown, seX6_brown, iniX6⟩ hvX6_brown ⟨Nat.le_of_ble_eq_true rfl, Nat.le_of_ble_eq_true rfl⟩ hM hS lw_aM XC.hD hC lw_dMC hl rfl rfl (Nat.le_of_ble_eq_true rfl) ⟨Nat.le_refl _, Nat.le_refl _⟩ dL_law_716 (fun H locs hM hC hS => ?_)
  refine lv_icmp_eq (tgt := 955) XC.hx XC.hb dL_law_719 (by decide) (fun _ => ?_) (fun c_ => absurd (rfl) c_)
  exact kk σ' τ' hR _ _ hC hM hS
set_option maxHeartbeats 4000000 in
set_option maxRecDepth 100000 in
theorem lw_case22 {p : Program} {l : Launch} {e : Env} {s : State} {m : MethodId} {below : List Frame} {meth : Method} {c : Code} {b L : Nat} {xs : Nat → Int32} {D : va_G} {ca : Nat → ClassId} (S0 : lwS p s m meth c b L xs D ca) {i : Nat} {x3 : Int32} (hi4 : i + 4 ≤ L) (ex : x3 = nI i) {σ τ : Mem} (hR : Rel σ τ) {H : Heap} {locs : List Loc} (hC : gH (GC D ca s.heap.size) σ H) (hM : gH (GM D ca (s.heap.size + 69)) τ H) (hS : va_S (fun q : Nat => s.heap.size ≤ q) s.heap H locs) {ls : Array Slot} (hl : lv_has ls 4 [(0, .ref b), (1, .ref (gad (GC D ca s.heap.size) 0 0)), (2, .ref (gad (GM D ca (s.heap.size + 69)) 0 0)), (3, .int x3)])
    (kk : ∀ (σ τ : Mem), Rel σ τ → ∀ (H : Heap) (locs : List Loc), gH (GC D ca s.heap.size) σ H → gH (GM D ca (s.heap.size + 69)) τ H → va_S (fun q : Nat => s.heap.size ≤ q) s.heap H locs → W p l e room_1 s m #[Value.ref b] below meth c H locs 600000 7302250 (lw_Z below #[Value.ref b] s) (F0 m 955 ls [])) : W p l e room_1 s m #[Value.ref b] below meth c H locs 600000 7302250 (lw_Z below #[Value.ref b] s) (F0 m 724 ls []) := by
  obtain ⟨XC, XM, hX, hbl, hL⟩ := S0
  have hbA : ¬ (fun q : Nat => s.heap.size ≤ q) b := Nat.not_le.mpr hbl
  obtain ⟨r, σ', τ', e1, e2, hR⟩ := op_burn hR 
  refine lv_aload_n XC.hx XC.hb dL_law_724 rfl (lv_at hl 1 rfl) ?_
  refine gl_callI (As := []) (rest := []) XC (kX5_burn l (o := 0) rfl e1) (C := RX5) (T := TX5) (N := 14) (ci := 5) rfl rfl ⟨cdX5_burn, mlL_106, imX5_burn, seX5_burn, iniX5⟩ hvX5_burn ⟨Nat.le_of_ble_eq_true rfl, Nat.le_of_ble_eq_true rfl⟩ hC hS lw_aC XM.hD hM lw_dCM hl rfl rfl (Nat.le_of_ble_eq_true rfl) ⟨Nat.le_refl _, Nat.le_refl _⟩ dL_law_725 (fun H locs hC hM hS => ?_)
  refine lv_aload_n XC.hx XC.hb dL_law_728 rfl (lv_at hl 2 rfl) ?_
  refine gl_callI (As := []) (rest := [.int r]) XM (kX6_burn l (o := 0) rfl e2) (C := RX6) (T := TX6) (N := 39) (ci := 6) rfl rfl ⟨cdX6_burn, mlL_109, imX6_burn, seX6_burn, iniX6⟩ hvX6_burn ⟨Nat.le_of_ble_eq_true rfl, Nat.le_of_ble_eq_true rfl⟩ hM hS lw_aM XC.hD hC lw_dMC hl rfl rfl (Nat.le_of_ble_eq_true rfl) ⟨Nat.le_refl _, Nat.le_refl _⟩ dL_law_729 (fun H locs hM hC hS => ?_)
  refine lv_icmp_eq (tgt := 955) XC.hx XC.hb dL_law_732 (by decide) (fun _ => ?_) (fun c_ => absurd (rfl) c_)
  exact kk σ' τ' hR _ _ hC hM hS
set_option maxHeartbeats 4000000 in
set_option maxRecDepth 100000 in
theorem lw_case23 {p : Program} {l : Launch} {e : Env} {s : State} {m : MethodId} {below : List Frame} {meth : Method} {c : Code} {b L : Nat} {xs : Nat → Int32} {D : va_G} {ca : Nat → ClassId} (S0 : lwS p s m meth c b L xs D ca) {i : Nat} {x3 : Int32} (hi4 : i + 4 ≤ L) (ex : x3 = nI i) {σ τ : Mem} (hR : Rel σ τ) {H : Heap} {locs : List Loc} (hC : gH (GC D ca s.heap.size) σ H) (hM : gH (GM D ca (s.heap.size + 69)) τ H) (hS : va_S (fun q : Nat => s.heap.size ≤ q) s.heap H locs) {ls : Array Slot} (hl : lv_has ls 4 [(0, .ref b), (1, .ref (gad (GC D ca s.heap.size) 0 0)), (2, .ref (gad (GM D ca (s.heap.size + 69)) 0 0)), (3, .int x3)])
    (kk : ∀ (σ τ : Mem), Rel σ τ → ∀ (H : Heap) (locs : List Loc), gH (GC D ca s.heap.size) σ H → gH (GM D ca (s.heap.size + 69)) τ H → va_S (fun q : Nat => s.heap.size ≤ q) s.heap H locs → W p l e room_1 s m #[Value.ref b] below meth c H locs 600000 7302250 (lw_Z below #[Value.ref b] s) (F0 m 955 ls [])) : W p l e room_1 s m #[Value.ref b] below meth c H locs 600000 7302250 (lw_Z below #[Value.ref b] s) (F0 m 737 ls []) := by
  obtain ⟨XC, XM, hX, hbl, hL⟩ := S0
  have hbA : ¬ (fun q : Nat => s.heap.size ≤ q) b := Nat.not_le.mpr hbl
  have hi1 : vp_in (x3 + 1) L := by rw [ex, nI_1]; exact vp_in_nI (by omega) (by omega)
  obtain ⟨r, e1, e2⟩ := op_stood hR (xs (x3 + 1).toNatClampNeg)
  refine lv_aload_n XC.hx XC.hb dL_law_737 rfl (lv_at hl 1 rfl) ?_
  refine lv_aload_n XC.hx XC.hb dL_law_738 rfl (lv_at hl 0 rfl) ?_
  refine lv_iload_n XC.hx XC.hb dL_law_739 rfl (lv_at hl 3 rfl) ?_
  refine lv_iconst (v := 1) XC.hx XC.hb dL_law_740 (by decide) ?_
  refine lv_iadd XC.hx XC.hb dL_law_741 ?_
  refine va_sld XC.hx XC.hb hX hbl hbA hS hi1 dL_law_742 ?_
  refine gl_callI (As := [.int (xs (x3 + 1).toNatClampNeg)]) (rest := []) XC (kX5_stood l (o := 0) rfl e1) (C := RX5) (T := TX5) (N := 14) (ci := 5) rfl rfl ⟨cdX5_stood, mlL_110, imX5_stood, seX5_stood, iniX5⟩ hvX5_stood ⟨Nat.le_of_ble_eq_true rfl, Nat.le_of_ble_eq_true rfl⟩ hC hS lw_aC XM.hD hM lw_dCM hl rfl rfl (Nat.le_of_ble_eq_true rfl) ⟨Nat.le_refl _, Nat.le_refl _⟩ dL_law_743 (fun H locs hC hM hS => ?_)
  refine lv_aload_n XC.hx XC.hb dL_law_746 rfl (lv_at hl 2 rfl) ?_
  refine lv_aload_n XC.hx XC.hb dL_law_747 rfl (lv_at hl 0 rfl) ?_
  refine lv_iload_n XC.hx XC.hb dL_law_748 rfl (lv_at hl 3 rfl) ?_
  refine lv_iconst (v := 1) XC.hx XC.hb dL_law_749 (by decide) ?_
  refine lv_iadd XC.hx XC.hb dL_law_750 ?_
  refine va_sld XC.hx XC.hb hX hbl hbA hS hi1 dL_law_751 ?_
  refine gl_callI (As := [.int (xs (x3 + 1).toNatClampNeg)]) (rest := [.int r]) XM (kX6_stood l (o := 0) rfl e2) (C := RX6) (T := TX6) (N := 39) (ci := 6) rfl rfl ⟨cdX6_stood, mlL_113, imX6_stood, seX6_stood, iniX6⟩ hvX6_stood ⟨Nat.le_of_ble_eq_true rfl, Nat.le_of_ble_eq_true rfl⟩ hM hS lw_aM XC.hD hC lw_dMC hl rfl rfl (Nat.le_of_ble_eq_true rfl) ⟨Nat.le_refl _, Nat.le_refl _⟩ dL_law_752 (fun H locs hM hC hS => ?_)
  refine lv_icmp_eq (tgt := 955) XC.hx XC.hb dL_law_755 (by decide) (fun _ => ?_) (fun c_ => absurd (rfl) c_)
  exact kk σ τ hR _ _ hC hM hS
set_option maxHeartbeats 4000000 in
set_option maxRecDepth 100000 in
theorem lw_case24 {p : Program} {l : Launch} {e : Env} {s : State} {m : MethodId} {below : List Frame} {meth : Method} {c : Code} {b L : Nat} {xs : Nat → Int32} {D : va_G} {ca : Nat → ClassId} (S0 : lwS p s m meth c b L xs D ca) {i : Nat} {x3 : Int32} (hi4 : i + 4 ≤ L) (ex : x3 = nI i) {σ τ : Mem} (hR : Rel σ τ) {H : Heap} {locs : List Loc} (hC : gH (GC D ca s.heap.size) σ H) (hM : gH (GM D ca (s.heap.size + 69)) τ H) (hS : va_S (fun q : Nat => s.heap.size ≤ q) s.heap H locs) {ls : Array Slot} (hl : lv_has ls 4 [(0, .ref b), (1, .ref (gad (GC D ca s.heap.size) 0 0)), (2, .ref (gad (GM D ca (s.heap.size + 69)) 0 0)), (3, .int x3)])
    (kk : ∀ (σ τ : Mem), Rel σ τ → ∀ (H : Heap) (locs : List Loc), gH (GC D ca s.heap.size) σ H → gH (GM D ca (s.heap.size + 69)) τ H → va_S (fun q : Nat => s.heap.size ≤ q) s.heap H locs → W p l e room_1 s m #[Value.ref b] below meth c H locs 600000 7302250 (lw_Z below #[Value.ref b] s) (F0 m 955 ls [])) : W p l e room_1 s m #[Value.ref b] below meth c H locs 600000 7302250 (lw_Z below #[Value.ref b] s) (F0 m 760 ls []) := by
  obtain ⟨XC, XM, hX, hbl, hL⟩ := S0
  have hbA : ¬ (fun q : Nat => s.heap.size ≤ q) b := Nat.not_le.mpr hbl
  have hi1 : vp_in (x3 + 1) L := by rw [ex, nI_1]; exact vp_in_nI (by omega) (by omega)
  obtain ⟨r, e1, e2⟩ := op_letters hR (xs (x3 + 1).toNatClampNeg)
  refine lv_aload_n XC.hx XC.hb dL_law_760 rfl (lv_at hl 1 rfl) ?_
  refine lv_aload_n XC.hx XC.hb dL_law_761 rfl (lv_at hl 0 rfl) ?_
  refine lv_iload_n XC.hx XC.hb dL_law_762 rfl (lv_at hl 3 rfl) ?_
  refine lv_iconst (v := 1) XC.hx XC.hb dL_law_763 (by decide) ?_
  refine lv_iadd XC.hx XC.hb dL_law_764 ?_
  refine va_sld XC.hx XC.hb hX hbl hbA hS hi1 dL_law_765 ?_
  refine gl_callI (As := [.int (xs (x3 + 1).toNatClampNeg)]) (rest := []) XC (kX5_letters l (o := 0) rfl e1) (C := RX5) (T := TX5) (N := 14) (ci := 5) rfl rfl ⟨cdX5_letters, mlL_114, imX5_letters, seX5_letters, iniX5⟩ hvX5_letters ⟨Nat.le_of_ble_eq_true rfl, Nat.le_of_ble_eq_true rfl⟩ hC hS lw_aC XM.hD hM lw_dCM hl rfl rfl (Nat.le_of_ble_eq_true rfl) ⟨Nat.le_refl _, Nat.le_refl _⟩ dL_law_766 (fun H locs hC hM hS => ?_)
  refine lv_aload_n XC.hx XC.hb dL_law_769 rfl (lv_at hl 2 rfl) ?_
  refine lv_aload_n XC.hx XC.hb dL_law_770 rfl (lv_at hl 0 rfl) ?_
  refine lv_iload_n XC.hx XC.hb dL_law_771 rfl (lv_at hl 3 rfl) ?_
  refine lv_iconst (v := 1) XC.hx XC.hb dL_law_772 (by decide) ?_
  refine lv_iadd XC.hx XC.hb dL_law_773 ?_
  refine va_sld XC.hx XC.hb hX hbl hbA hS hi1 dL_law_774 ?_
  refine gl_callI (As := [.int (xs (x3 + 1).toNatClampNeg)]) (rest := [.int r]) XM (kX6_letters l (o := 0) rfl e2) (C := RX6) (T := TX6) (N := 39) (ci := 6) rfl rfl ⟨cdX6_letters, mlL_117, imX6_letters, seX6_letters, iniX6⟩ hvX6_letters ⟨Nat.le_of_ble_eq_true rfl, Nat.le_of_ble_eq_true rfl⟩ hM hS lw_aM XC.hD hC lw_dMC hl rfl rfl (Nat.le_of_ble_eq_true rfl) ⟨Nat.le_refl _, Nat.le_refl _⟩ dL_law_775 (fun H locs hM hC hS => ?_)
  refine lv_icmp_eq (tgt := 955) XC.hx XC.hb dL_law_778 (by decide) (fun _ => ?_) (fun c_ => absurd (rfl) c_)
  exact kk σ τ hR _ _ hC hM hS
set_option maxHeartbeats 4000000 in
set_option maxRecDepth 100000 in
theorem lw_case25 {p : Program} {l : Launch} {e : Env} {s : State} {m : MethodId} {below : List Frame} {meth : Method} {c : Code} {b L : Nat} {xs : Nat → Int32} {D : va_G} {ca : Nat → ClassId} (S0 : lwS p s m meth c b L xs D ca) {i : Nat} {x3 : Int32} (hi4 : i + 4 ≤ L) (ex : x3 = nI i) {σ τ : Mem} (hR : Rel σ τ) {H : Heap} {locs : List Loc} (hC : gH (GC D ca s.heap.size) σ H) (hM : gH (GM D ca (s.heap.size + 69)) τ H) (hS : va_S (fun q : Nat => s.heap.size ≤ q) s.heap H locs) {ls : Array Slot} (hl : lv_has ls 4 [(0, .ref b), (1, .ref (gad (GC D ca s.heap.size) 0 0)), (2, .ref (gad (GM D ca (s.heap.size + 69)) 0 0)), (3, .int x3)])
    (kk : ∀ (σ τ : Mem), Rel σ τ → ∀ (H : Heap) (locs : List Loc), gH (GC D ca s.heap.size) σ H → gH (GM D ca (s.heap.size + 69)) τ H → va_S (fun q : Nat => s.heap.size ≤ q) s.heap H locs → W p l e room_1 s m #[Value.ref b] below meth c H locs 600000 7302250 (lw_Z below #[Value.ref b] s) (F0 m 955 ls [])) : W p l e room_1 s m #[Value.ref b] below meth c H locs 600000 7302250 (lw_Z below #[Value.ref b] s) (F0 m 783 ls []) := by
  obtain ⟨XC, XM, hX, hbl, hL⟩ := S0
  have hbA : ¬ (fun q : Nat => s.heap.size ≤ q) b := Nat.not_le.mpr hbl
  have hi1 : vp_in (x3 + 1) L := by rw [ex, nI_1]; exact vp_in_nI (by omega) (by omega)
  obtain ⟨r, τ', e1, e2, hR⟩ := op_whose hR (xs (x3 + 1).toNatClampNeg)
  refine lv_aload_n XC.hx XC.hb dL_law_783 rfl (lv_at hl 1 rfl) ?_
  refine lv_aload_n XC.hx XC.hb dL_law_784 rfl (lv_at hl 0 rfl) ?_
  refine lv_iload_n XC.hx XC.hb dL_law_785 rfl (lv_at hl 3 rfl) ?_
  refine lv_iconst (v := 1) XC.hx XC.hb dL_law_786 (by decide) ?_
  refine lv_iadd XC.hx XC.hb dL_law_787 ?_
  refine va_sld XC.hx XC.hb hX hbl hbA hS hi1 dL_law_788 ?_
  refine gl_callI (As := [.int (xs (x3 + 1).toNatClampNeg)]) (rest := []) XC (kX5_whose l (o := 0) rfl e1) (C := RX5) (T := TX5) (N := 14) (ci := 5) rfl rfl ⟨cdX5_whose, mlL_118, imX5_whose, seX5_whose, iniX5⟩ hvX5_whose ⟨Nat.le_of_ble_eq_true rfl, Nat.le_of_ble_eq_true rfl⟩ hC hS lw_aC XM.hD hM lw_dCM hl rfl rfl (Nat.le_of_ble_eq_true rfl) ⟨Nat.le_refl _, Nat.le_refl _⟩ dL_law_789 (fun H locs hC hM hS => ?_)
  refine lv_aload_n XC.hx XC.hb dL_law_792 rfl (lv_at hl 2 rfl) ?_
  refine lv_aload_n XC.hx XC.hb dL_law_793 rfl (lv_at hl 0 rfl) ?_
  refine lv_iload_n XC.hx XC.hb dL_law_794 rfl (lv_at hl 3 rfl) ?_
  refine lv_iconst (v := 1) XC.hx XC.hb dL_law_795 (by decide) ?_
  refine lv_iadd XC.hx XC.hb dL_law_796 ?_
  refine va_sld XC.hx XC.hb hX hbl hbA hS hi1 dL_law_797 ?_
  refine gl_callI (As := [.int (xs (x3 + 1).toNatClampNeg)]) (rest := [.int r]) XM (kX6_whose l (o := 0) rfl e2) (C := RX6) (T := TX6) (N := 39) (ci := 6) rfl rfl ⟨cdX6_whose, mlL_121, imX6_whose, seX6_whose, iniX6⟩ hvX6_whose ⟨Nat.le_of_ble_eq_true rfl, Nat.le_of_ble_eq_true rfl⟩ hM hS lw_aM XC.hD hC lw_dMC hl rfl rfl (Nat.le_of_ble_eq_true rfl) ⟨Nat.le_refl _, Nat.le_refl _⟩ dL_law_798 (fun H locs hM hC hS => ?_)
  refine lv_icmp_eq (tgt := 955) XC.hx XC.hb dL_law_801 (by decide) (fun _ => ?_) (fun c_ => absurd (rfl) c_)
  exact kk σ τ' hR _ _ hC hM hS
set_option maxHeartbeats 4000000 in
set_option maxRecDepth 100000 in
theorem lw_case26 {p : Program} {l : Launch} {e : Env} {s : State} {m : MethodId} {below : List Frame} {meth : Method} {c : Code} {b L : Nat} {xs : Nat → Int32} {D : va_G} {ca : Nat → ClassId} (S0 : lwS p s m meth c b L xs D ca) {i : Nat} {x3 : Int32} (hi4 : i + 4 ≤ L) (ex : x3 = nI i) {σ τ : Mem} (hR : Rel σ τ) {H : Heap} {locs : List Loc} (hC : gH (GC D ca s.heap.size) σ H) (hM : gH (GM D ca (s.heap.size + 69)) τ H) (hS : va_S (fun q : Nat => s.heap.size ≤ q) s.heap H locs) {ls : Array Slot} (hl : lv_has ls 4 [(0, .ref b), (1, .ref (gad (GC D ca s.heap.size) 0 0)), (2, .ref (gad (GM D ca (s.heap.size + 69)) 0 0)), (3, .int x3)])
    (kk : ∀ (σ τ : Mem), Rel σ τ → ∀ (H : Heap) (locs : List Loc), gH (GC D ca s.heap.size) σ H → gH (GM D ca (s.heap.size + 69)) τ H → va_S (fun q : Nat => s.heap.size ≤ q) s.heap H locs → W p l e room_1 s m #[Value.ref b] below meth c H locs 600000 7302250 (lw_Z below #[Value.ref b] s) (F0 m 955 ls [])) : W p l e room_1 s m #[Value.ref b] below meth c H locs 600000 7302250 (lw_Z below #[Value.ref b] s) (F0 m 806 ls []) := by
  obtain ⟨XC, XM, hX, hbl, hL⟩ := S0
  have hbA : ¬ (fun q : Nat => s.heap.size ≤ q) b := Nat.not_le.mpr hbl
  have hi1 : vp_in (x3 + 1) L := by rw [ex, nI_1]; exact vp_in_nI (by omega) (by omega)
  have hi2 : vp_in (x3 + 2) L := by rw [ex, nI_2]; exact vp_in_nI (by omega) (by omega)
  obtain ⟨r, σ', τ', e1, e2, hR⟩ := op_chain hR (xs (x3 + 1).toNatClampNeg) (xs (x3 + 2).toNatClampNeg)
  refine lv_aload_n XC.hx XC.hb dL_law_806 rfl (lv_at hl 1 rfl) ?_
  refine lv_aload_n XC.hx XC.hb dL_law_807 rfl (lv_at hl 0 rfl) ?_
  refine lv_iload_n XC.hx XC.hb dL_law_808 rfl (lv_at hl 3 rfl) ?_
  refine lv_iconst (v := 1) XC.hx XC.hb dL_law_809 (by decide) ?_
  refine lv_iadd XC.hx XC.hb dL_law_810 ?_
  refine va_sld XC.hx XC.hb hX hbl hbA hS hi1 dL_law_811 ?_
  refine lv_aload_n XC.hx XC.hb dL_law_812 rfl (lv_at hl 0 rfl) ?_
  refine lv_iload_n XC.hx XC.hb dL_law_813 rfl (lv_at hl 3 rfl) ?_
  refine lv_iconst (v := 2) XC.hx XC.hb dL_law_814 (by decide) ?_
  refine lv_iadd XC.hx XC.hb dL_law_815 ?_
  refine va_sld XC.hx XC.hb hX hbl hbA hS hi2 dL_law_816 ?_
  refine gl_callI (As := [.int (xs (x3 + 1).toNatClampNeg), .int (xs (x3 + 2).toNatClampNeg)]) (rest := []) XC (kX5_chain l (o := 0) rfl e1) (C := RX5) (T := TX5) (N := 14) (ci := 5) rfl rfl ⟨cdX5_chain, mlL_122, imX5_chain, seX5_chain, iniX5⟩ hvX5_chain ⟨Nat.le_of_ble_eq_true rfl, Nat.le_of_ble_eq_true rfl⟩ hC hS lw_aC XM.hD hM lw_dCM hl rfl rfl (Nat.le_of_ble_eq_true rfl) ⟨Nat.le_refl _, Nat.le_refl _⟩ dL_law_817 (fun H locs hC hM hS => ?_)
  refine lv_aload_n XC.hx XC.hb dL_law_820 rfl (lv_at hl 2 rfl) ?_
  refine lv_aload_n XC.hx XC.hb dL_law_821 rfl (lv_at hl 0 rfl) ?_
  refine lv_iload_n XC.hx XC.hb dL_law_822 rfl (lv_at hl 3 rfl) ?_
  refine lv_iconst (v := 1) XC.hx XC.hb dL_law_823 (by decide) ?_
  refine lv_iadd XC.hx XC.hb dL_law_824 ?_
  refine va_sld XC.hx XC.hb hX hbl hbA hS hi1 dL_law_825 ?_
  refine lv_aload_n XC.hx XC.hb dL_law_826 rfl (lv_at hl 0 rfl) ?_
  refine lv_iload_n XC.hx XC.hb dL_law_827 rfl (lv_at hl 3 rfl) ?_
  refine lv_iconst (v := 2) XC.hx XC.hb dL_law_828 (by decide) ?_
  refine lv_iadd XC.hx XC.hb dL_law_829 ?_
  refine va_sld XC.hx XC.hb hX hbl hbA hS hi2 dL_law_830 ?_
  refine gl_callI (As := [.int (xs (x3 + 1).toNatClampNeg), .int (xs (x3 + 2).toNatClampNeg)]) (rest := [.int r]) XM (kX6_chain l (o := 0) rfl e2) (C := RX6) (T := TX6) (N := 39) (ci := 6) rfl rfl ⟨cdX6_chain, mlL_125, imX6_chain, seX6_chain, iniX6⟩ hvX6_chain ⟨Nat.le_of_ble_eq_true rfl, Nat.le_of_ble_eq_true rfl⟩ hM hS lw_aM XC.hD hC lw_dMC hl rfl rfl (Nat.le_of_ble_eq_true rfl) ⟨Nat.le_refl _, Nat.le_refl _⟩ dL_law_831 (fun H locs hM hC hS => ?_)
  refine lv_icmp_eq (tgt := 955) XC.hx XC.hb dL_law_834 (by decide) (fun _ => ?_) (fun c_ => absurd (rfl) c_)
  exact kk σ' τ' hR _ _ hC hM hS
set_option maxHeartbeats 4000000 in
set_option maxRecDepth 100000 in
theorem lw_case27 {p : Program} {l : Launch} {e : Env} {s : State} {m : MethodId} {below : List Frame} {meth : Method} {c : Code} {b L : Nat} {xs : Nat → Int32} {D : va_G} {ca : Nat → ClassId} (S0 : lwS p s m meth c b L xs D ca) {i : Nat} {x3 : Int32} (hi4 : i + 4 ≤ L) (ex : x3 = nI i) {σ τ : Mem} (hR : Rel σ τ) {H : Heap} {locs : List Loc} (hC : gH (GC D ca s.heap.size) σ H) (hM : gH (GM D ca (s.heap.size + 69)) τ H) (hS : va_S (fun q : Nat => s.heap.size ≤ q) s.heap H locs) {ls : Array Slot} (hl : lv_has ls 4 [(0, .ref b), (1, .ref (gad (GC D ca s.heap.size) 0 0)), (2, .ref (gad (GM D ca (s.heap.size + 69)) 0 0)), (3, .int x3)])
    (kk : ∀ (σ τ : Mem), Rel σ τ → ∀ (H : Heap) (locs : List Loc), gH (GC D ca s.heap.size) σ H → gH (GM D ca (s.heap.size + 69)) τ H → va_S (fun q : Nat => s.heap.size ≤ q) s.heap H locs → W p l e room_1 s m #[Value.ref b] below meth c H locs 600000 7302250 (lw_Z below #[Value.ref b] s) (F0 m 955 ls [])) : W p l e room_1 s m #[Value.ref b] below meth c H locs 600000 7302250 (lw_Z below #[Value.ref b] s) (F0 m 839 ls []) := by
  obtain ⟨XC, XM, hX, hbl, hL⟩ := S0
  have hbA : ¬ (fun q : Nat => s.heap.size ≤ q) b := Nat.not_le.mpr hbl
  have hi1 : vp_in (x3 + 1) L := by rw [ex, nI_1]; exact vp_in_nI (by omega) (by omega)
  have hi2 : vp_in (x3 + 2) L := by rw [ex, nI_2]; exact vp_in_nI (by omega) (by omega)
  obtain ⟨r, σ', τ', e1, e2, hR⟩ := op_rate hR (xs (x3 + 1).toNatClampNeg) (xs (x3 + 2).toNatClampNeg)
  refine lv_aload_n XC.hx XC.hb dL_law_839 rfl (lv_at hl 1 rfl) ?_
  refine lv_aload_n XC.hx XC.hb dL_law_840 rfl (lv_at hl 0 rfl) ?_
  refine lv_iload_n XC.hx XC.hb dL_law_841 rfl (lv_at hl 3 rfl) ?_
  refine lv_iconst (v := 1) XC.hx XC.hb dL_law_842 (by decide) ?_
  refine lv_iadd XC.hx XC.hb dL_law_843 ?_
  refine va_sld XC.hx XC.hb hX hbl hbA hS hi1 dL_law_844 ?_
  refine lv_aload_n XC.hx XC.hb dL_law_845 rfl (lv_at hl 0 rfl) ?_
  refine lv_iload_n XC.hx XC.hb dL_law_846 rfl (lv_at hl 3 rfl) ?_
  refine lv_iconst (v := 2) XC.hx XC.hb dL_law_847 (by decide) ?_
  refine lv_iadd XC.hx XC.hb dL_law_848 ?_
  refine va_sld XC.hx XC.hb hX hbl hbA hS hi2 dL_law_849 ?_
  refine gl_callI (As := [.int (xs (x3 + 1).toNatClampNeg), .int (xs (x3 + 2).toNatClampNeg)]) (rest := []) XC (kX5_rate l (o := 0) rfl e1) (C := RX5) (T := TX5) (N := 14) (ci := 5) rfl rfl ⟨cdX5_rate, mlL_126, imX5_rate, seX5_rate, iniX5⟩ hvX5_rate ⟨Nat.le_of_ble_eq_true rfl, Nat.le_of_ble_eq_true rfl⟩ hC hS lw_aC XM.hD hM lw_dCM hl rfl rfl (Nat.le_of_ble_eq_true rfl) ⟨Nat.le_refl _, Nat.le_refl _⟩ dL_law_850 (fun H locs hC hM hS => ?_)
  refine lv_aload_n XC.hx XC.hb dL_law_853 rfl (lv_at hl 2 rfl) ?_
  refine lv_aload_n XC.hx XC.hb dL_law_854 rfl (lv_at hl 0 rfl) ?_
  refine lv_iload_n XC.hx XC.hb dL_law_855 rfl (lv_at hl 3 rfl) ?_
  refine lv_iconst (v := 1) XC.hx XC.hb dL_law_856 (by decide) ?_
  refine lv_iadd XC.hx XC.hb dL_law_857 ?_
  refine va_sld XC.hx XC.hb hX hbl hbA hS hi1 dL_law_858 ?_
  refine lv_aload_n XC.hx XC.hb dL_law_859 rfl (lv_at hl 0 rfl) ?_
  refine lv_iload_n XC.hx XC.hb dL_law_860 rfl (lv_at hl 3 rfl) ?_
  refine lv_iconst (v := 2) XC.hx XC.hb dL_law_861 (by decide) ?_
  refine lv_iadd XC.hx XC.hb dL_law_862 ?_
  refine va_sld XC.hx XC.hb hX hbl hbA hS hi2 dL_law_863 ?_
  refine gl_callI (As := [.int (xs (x3 + 1).toNatClampNeg), .int (xs (x3 + 2).toNatClampNeg)]) (rest := [.int r]) XM (kX6_rate l (o := 0) rfl e2) (C := RX6) (T := TX6) (N := 39) (ci := 6) rfl rfl ⟨cdX6_rate, mlL_129, imX6_rate, seX6_rate, iniX6⟩ hvX6_rate ⟨Nat.le_of_ble_eq_true rfl, Nat.le_of_ble_eq_true rfl⟩ hM hS lw_aM XC.hD hC lw_dMC hl rfl rfl (Nat.le_of_ble_eq_true rfl) ⟨Nat.le_refl _, Nat.le_refl _⟩ dL_law_864 (fun H locs hM hC hS => ?_)
  refine lv_icmp_eq (tgt := 955) XC.hx XC.hb dL_law_867 (by decide) (fun _ => ?_) (fun c_ => absurd (rfl) c_)
  exact kk σ' τ' hR _ _ hC hM hS
set_option maxHeartbeats 4000000 in
set_option maxRecDepth 100000 in
theorem lw_case28 {p : Program} {l : Launch} {e : Env} {s : State} {m : MethodId} {below : List Frame} {meth : Method} {c : Code} {b L : Nat} {xs : Nat → Int32} {D : va_G} {ca : Nat → ClassId} (S0 : lwS p s m meth c b L xs D ca) {i : Nat} {x3 : Int32} (hi4 : i + 4 ≤ L) (ex : x3 = nI i) {σ τ : Mem} (hR : Rel σ τ) {H : Heap} {locs : List Loc} (hC : gH (GC D ca s.heap.size) σ H) (hM : gH (GM D ca (s.heap.size + 69)) τ H) (hS : va_S (fun q : Nat => s.heap.size ≤ q) s.heap H locs) {ls : Array Slot} (hl : lv_has ls 4 [(0, .ref b), (1, .ref (gad (GC D ca s.heap.size) 0 0)), (2, .ref (gad (GM D ca (s.heap.size + 69)) 0 0)), (3, .int x3)])
    (kk : ∀ (σ τ : Mem), Rel σ τ → ∀ (H : Heap) (locs : List Loc), gH (GC D ca s.heap.size) σ H → gH (GM D ca (s.heap.size + 69)) τ H → va_S (fun q : Nat => s.heap.size ≤ q) s.heap H locs → W p l e room_1 s m #[Value.ref b] below meth c H locs 600000 7302250 (lw_Z below #[Value.ref b] s) (F0 m 955 ls [])) : W p l e room_1 s m #[Value.ref b] below meth c H locs 600000 7302250 (lw_Z below #[Value.ref b] s) (F0 m 872 ls []) := by
  obtain ⟨XC, XM, hX, hbl, hL⟩ := S0
  have hbA : ¬ (fun q : Nat => s.heap.size ≤ q) b := Nat.not_le.mpr hbl
  have hi1 : vp_in (x3 + 1) L := by rw [ex, nI_1]; exact vp_in_nI (by omega) (by omega)
  obtain ⟨r, σ', τ', e1, e2, hR⟩ := op_keep hR (xs (x3 + 1).toNatClampNeg)
  refine lv_aload_n XC.hx XC.hb dL_law_872 rfl (lv_at hl 1 rfl) ?_
  refine lv_aload_n XC.hx XC.hb dL_law_873 rfl (lv_at hl 0 rfl) ?_
  refine lv_iload_n XC.hx XC.hb dL_law_874 rfl (lv_at hl 3 rfl) ?_
  refine lv_iconst (v := 1) XC.hx XC.hb dL_law_875 (by decide) ?_
  refine lv_iadd XC.hx XC.hb dL_law_876 ?_
  refine va_sld XC.hx XC.hb hX hbl hbA hS hi1 dL_law_877 ?_
  refine gl_callI (As := [.int (xs (x3 + 1).toNatClampNeg)]) (rest := []) XC (kX5_keep l (o := 0) rfl e1) (C := RX5) (T := TX5) (N := 14) (ci := 5) rfl rfl ⟨cdX5_keep, mlL_130, imX5_keep, seX5_keep, iniX5⟩ hvX5_keep ⟨Nat.le_of_ble_eq_true rfl, Nat.le_of_ble_eq_true rfl⟩ hC hS lw_aC XM.hD hM lw_dCM hl rfl rfl (Nat.le_of_ble_eq_true rfl) ⟨Nat.le_refl _, Nat.le_refl _⟩ dL_law_878 (fun H locs hC hM hS => ?_)
  refine lv_aload_n XC.hx XC.hb dL_law_881 rfl (lv_at hl 2 rfl) ?_
  refine lv_aload_n XC.hx XC.hb dL_law_882 rfl (lv_at hl 0 rfl) ?_
  refine lv_iload_n XC.hx XC.hb dL_law_883 rfl (lv_at hl 3 rfl) ?_
  refine lv_iconst (v := 1) XC.hx XC.hb dL_law_884 (by decide) ?_
  refine lv_iadd XC.hx XC.hb dL_law_885 ?_
  refine va_sld XC.hx XC.hb hX hbl hbA hS hi1 dL_law_886 ?_
  refine gl_callI (As := [.int (xs (x3 + 1).toNatClampNeg)]) (rest := [.int r]) XM (kX6_keep l (o := 0) rfl e2) (C := RX6) (T := TX6) (N := 39) (ci := 6) rfl rfl ⟨cdX6_keep, mlL_133, imX6_keep, seX6_keep, iniX6⟩ hvX6_keep ⟨Nat.le_of_ble_eq_true rfl, Nat.le_of_ble_eq_true rfl⟩ hM hS lw_aM XC.hD hC lw_dMC hl rfl rfl (Nat.le_of_ble_eq_true rfl) ⟨Nat.le_refl _, Nat.le_refl _⟩ dL_law_887 (fun H locs hM hC hS => ?_)
  refine lv_icmp_eq (tgt := 955) XC.hx XC.hb dL_law_890 (by decide) (fun _ => ?_) (fun c_ => absurd (rfl) c_)
  exact kk σ' τ' hR _ _ hC hM hS
set_option maxHeartbeats 4000000 in
set_option maxRecDepth 100000 in
theorem lw_case29 {p : Program} {l : Launch} {e : Env} {s : State} {m : MethodId} {below : List Frame} {meth : Method} {c : Code} {b L : Nat} {xs : Nat → Int32} {D : va_G} {ca : Nat → ClassId} (S0 : lwS p s m meth c b L xs D ca) {i : Nat} {x3 : Int32} (hi4 : i + 4 ≤ L) (ex : x3 = nI i) {σ τ : Mem} (hR : Rel σ τ) {H : Heap} {locs : List Loc} (hC : gH (GC D ca s.heap.size) σ H) (hM : gH (GM D ca (s.heap.size + 69)) τ H) (hS : va_S (fun q : Nat => s.heap.size ≤ q) s.heap H locs) {ls : Array Slot} (hl : lv_has ls 4 [(0, .ref b), (1, .ref (gad (GC D ca s.heap.size) 0 0)), (2, .ref (gad (GM D ca (s.heap.size + 69)) 0 0)), (3, .int x3)])
    (kk : ∀ (σ τ : Mem), Rel σ τ → ∀ (H : Heap) (locs : List Loc), gH (GC D ca s.heap.size) σ H → gH (GM D ca (s.heap.size + 69)) τ H → va_S (fun q : Nat => s.heap.size ≤ q) s.heap H locs → W p l e room_1 s m #[Value.ref b] below meth c H locs 600000 7302250 (lw_Z below #[Value.ref b] s) (F0 m 955 ls [])) : W p l e room_1 s m #[Value.ref b] below meth c H locs 600000 7302250 (lw_Z below #[Value.ref b] s) (F0 m 895 ls []) := by
  obtain ⟨XC, XM, hX, hbl, hL⟩ := S0
  have hbA : ¬ (fun q : Nat => s.heap.size ≤ q) b := Nat.not_le.mpr hbl
  have hi1 : vp_in (x3 + 1) L := by rw [ex, nI_1]; exact vp_in_nI (by omega) (by omega)
  obtain ⟨r, σ', τ', e1, e2, hR⟩ := op_back hR (xs (x3 + 1).toNatClampNeg)
  refine lv_aload_n XC.hx XC.hb dL_law_895 rfl (lv_at hl 1 rfl) ?_
  refine lv_aload_n XC.hx XC.hb dL_law_896 rfl (lv_at hl 0 rfl) ?_
  refine lv_iload_n XC.hx XC.hb dL_law_897 rfl (lv_at hl 3 rfl) ?_
  refine lv_iconst (v := 1) XC.hx XC.hb dL_law_898 (by decide) ?_
  refine lv_iadd XC.hx XC.hb dL_law_899 ?_
  refine va_sld XC.hx XC.hb hX hbl hbA hS hi1 dL_law_900 ?_
  refine gl_callI (As := [.int (xs (x3 + 1).toNatClampNeg)]) (rest := []) XC (kX5_back l (o := 0) rfl e1) (C := RX5) (T := TX5) (N := 14) (ci := 5) rfl rfl ⟨cdX5_back, mlL_134, imX5_back, seX5_back, iniX5⟩ hvX5_back ⟨Nat.le_of_ble_eq_true rfl, Nat.le_of_ble_eq_true rfl⟩ hC hS lw_aC XM.hD hM lw_dCM hl rfl rfl (Nat.le_of_ble_eq_true rfl) ⟨Nat.le_refl _, Nat.le_refl _⟩ dL_law_901 (fun H locs hC hM hS => ?_)
  refine lv_aload_n XC.hx XC.hb dL_law_904 rfl (lv_at hl 2 rfl) ?_
  refine lv_aload_n XC.hx XC.hb dL_law_905 rfl (lv_at hl 0 rfl) ?_
  refine lv_iload_n XC.hx XC.hb dL_law_906 rfl (lv_at hl 3 rfl) ?_
  refine lv_iconst (v := 1) XC.hx XC.hb dL_law_907 (by decide) ?_
  refine lv_iadd XC.hx XC.hb dL_law_908 ?_
  refine va_sld XC.hx XC.hb hX hbl hbA hS hi1 dL_law_909 ?_
  refine gl_callI (As := [.int (xs (x3 + 1).toNatClampNeg)]) (rest := [.int r]) XM (kX6_back l (o := 0) rfl e2) (C := RX6) (T := TX6) (N := 39) (ci := 6) rfl rfl ⟨cdX6_back, mlL_137, imX6_back, seX6_back, iniX6⟩ hvX6_back ⟨Nat.le_of_ble_eq_true rfl, Nat.le_of_ble_eq_true rfl⟩ hM hS lw_aM XC.hD hC lw_dMC hl rfl rfl (Nat.le_of_ble_eq_true rfl) ⟨Nat.le_refl _, Nat.le_refl _⟩ dL_law_910 (fun H locs hM hC hS => ?_)
  refine lv_icmp_eq (tgt := 955) XC.hx XC.hb dL_law_913 (by decide) (fun _ => ?_) (fun c_ => absurd (rfl) c_)
  exact kk σ' τ' hR _ _ hC hM hS
set_option maxHeartbeats 4000000 in
set_option maxRecDepth 100000 in
theorem lw_case30 {p : Program} {l : Launch} {e : Env} {s : State} {m : MethodId} {below : List Frame} {meth : Method} {c : Code} {b L : Nat} {xs : Nat → Int32} {D : va_G} {ca : Nat → ClassId} (S0 : lwS p s m meth c b L xs D ca) {i : Nat} {x3 : Int32} (hi4 : i + 4 ≤ L) (ex : x3 = nI i) {σ τ : Mem} (hR : Rel σ τ) {H : Heap} {locs : List Loc} (hC : gH (GC D ca s.heap.size) σ H) (hM : gH (GM D ca (s.heap.size + 69)) τ H) (hS : va_S (fun q : Nat => s.heap.size ≤ q) s.heap H locs) {ls : Array Slot} (hl : lv_has ls 4 [(0, .ref b), (1, .ref (gad (GC D ca s.heap.size) 0 0)), (2, .ref (gad (GM D ca (s.heap.size + 69)) 0 0)), (3, .int x3)])
    (kk : ∀ (σ τ : Mem), Rel σ τ → ∀ (H : Heap) (locs : List Loc), gH (GC D ca s.heap.size) σ H → gH (GM D ca (s.heap.size + 69)) τ H → va_S (fun q : Nat => s.heap.size ≤ q) s.heap H locs → W p l e room_1 s m #[Value.ref b] below meth c H locs 600000 7302250 (lw_Z below #[Value.ref b] s) (F0 m 955 ls [])) : W p l e room_1 s m #[Value.ref b] below meth c H locs 600000 7302250 (lw_Z below #[Value.ref b] s) (F0 m 918 ls []) := by
  obtain ⟨XC, XM, hX, hbl, hL⟩ := S0
  have hbA : ¬ (fun q : Nat => s.heap.size ≤ q) b := Nat.not_le.mpr hbl
  have hi1 : vp_in (x3 + 1) L := by rw [ex, nI_1]; exact vp_in_nI (by omega) (by omega)
  obtain ⟨r, e1, e2⟩ := op_count hR (xs (x3 + 1).toNatClampNeg)
  refine lv_aload_n XC.hx XC.hb dL_law_918 rfl (lv_at hl 1 rfl) ?_
  refine lv_aload_n XC.hx XC.hb dL_law_919 rfl (lv_at hl 0 rfl) ?_
  refine lv_iload_n XC.hx XC.hb dL_law_920 rfl (lv_at hl 3 rfl) ?_
  refine lv_iconst (v := 1) XC.hx XC.hb dL_law_921 (by decide) ?_
  refine lv_iadd XC.hx XC.hb dL_law_922 ?_
  refine va_sld XC.hx XC.hb hX hbl hbA hS hi1 dL_law_923 ?_
  refine gl_callI (As := [.int (xs (x3 + 1).toNatClampNeg)]) (rest := []) XC (kX5_count l (o := 0) rfl e1) (C := RX5) (T := TX5) (N := 14) (ci := 5) rfl rfl ⟨cdX5_count, mlL_138, imX5_count, seX5_count, iniX5⟩ hvX5_count ⟨Nat.le_of_ble_eq_true rfl, Nat.le_of_ble_eq_true rfl⟩ hC hS lw_aC XM.hD hM lw_dCM hl rfl rfl (Nat.le_of_ble_eq_true rfl) ⟨Nat.le_refl _, Nat.le_refl _⟩ dL_law_924 (fun H locs hC hM hS => ?_)
  refine lv_aload_n XC.hx XC.hb dL_law_927 rfl (lv_at hl 2 rfl) ?_
  refine lv_aload_n XC.hx XC.hb dL_law_928 rfl (lv_at hl 0 rfl) ?_
  refine lv_iload_n XC.hx XC.hb dL_law_929 rfl (lv_at hl 3 rfl) ?_
  refine lv_iconst (v := 1) XC.hx XC.hb dL_law_930 (by decide) ?_
  refine lv_iadd XC.hx XC.hb dL_law_931 ?_
  refine va_sld XC.hx XC.hb hX hbl hbA hS hi1 dL_law_932 ?_
  refine gl_callI (As := [.int (xs (x3 + 1).toNatClampNeg)]) (rest := [.int r]) XM (kX6_count l (o := 0) rfl e2) (C := RX6) (T := TX6) (N := 39) (ci := 6) rfl rfl ⟨cdX6_count, mlL_141, imX6_count, seX6_count, iniX6⟩ hvX6_count ⟨Nat.le_of_ble_eq_true rfl, Nat.le_of_ble_eq_true rfl⟩ hM hS lw_aM XC.hD hC lw_dMC hl rfl rfl (Nat.le_of_ble_eq_true rfl) ⟨Nat.le_refl _, Nat.le_refl _⟩ dL_law_933 (fun H locs hM hC hS => ?_)
  refine lv_icmp_eq (tgt := 955) XC.hx XC.hb dL_law_936 (by decide) (fun _ => ?_) (fun c_ => absurd (rfl) c_)
  exact kk σ τ hR _ _ hC hM hS
set_option maxHeartbeats 4000000 in
set_option maxRecDepth 100000 in
theorem lw_case31 {p : Program} {l : Launch} {e : Env} {s : State} {m : MethodId} {below : List Frame} {meth : Method} {c : Code} {b L : Nat} {xs : Nat → Int32} {D : va_G} {ca : Nat → ClassId} (S0 : lwS p s m meth c b L xs D ca) {i : Nat} {x3 : Int32} (hi4 : i + 4 ≤ L) (ex : x3 = nI i) {σ τ : Mem} (hR : Rel σ τ) {H : Heap} {locs : List Loc} (hC : gH (GC D ca s.heap.size) σ H) (hM : gH (GM D ca (s.heap.size + 69)) τ H) (hS : va_S (fun q : Nat => s.heap.size ≤ q) s.heap H locs) {ls : Array Slot} (hl : lv_has ls 4 [(0, .ref b), (1, .ref (gad (GC D ca s.heap.size) 0 0)), (2, .ref (gad (GM D ca (s.heap.size + 69)) 0 0)), (3, .int x3)])
    (kk : ∀ (σ τ : Mem), Rel σ τ → ∀ (H : Heap) (locs : List Loc), gH (GC D ca s.heap.size) σ H → gH (GM D ca (s.heap.size + 69)) τ H → va_S (fun q : Nat => s.heap.size ≤ q) s.heap H locs → W p l e room_1 s m #[Value.ref b] below meth c H locs 600000 7302250 (lw_Z below #[Value.ref b] s) (F0 m 955 ls [])) : W p l e room_1 s m #[Value.ref b] below meth c H locs 600000 7302250 (lw_Z below #[Value.ref b] s) (F0 m 941 ls []) := by
  obtain ⟨XC, XM, hX, hbl, hL⟩ := S0
  have hbA : ¬ (fun q : Nat => s.heap.size ≤ q) b := Nat.not_le.mpr hbl
  obtain ⟨r, e1, e2⟩ := op_trace hR 
  refine lv_aload_n XC.hx XC.hb dL_law_941 rfl (lv_at hl 1 rfl) ?_
  refine gl_callL (As := []) (rest := []) XC (kX5_trace l (o := 0) rfl e1) (C := RX5) (T := TX5) (N := 14) (ci := 5) rfl rfl ⟨cdX5_trace, mlL_142, imX5_trace, seX5_trace, iniX5⟩ hvX5_trace ⟨Nat.le_of_ble_eq_true rfl, Nat.le_of_ble_eq_true rfl⟩ hC hS lw_aC XM.hD hM lw_dCM hl rfl rfl (Nat.le_of_ble_eq_true rfl) ⟨Nat.le_refl _, Nat.le_refl _⟩ dL_law_942 (fun H locs hC hM hS => ?_)
  refine lv_aload_n XC.hx XC.hb dL_law_945 rfl (lv_at hl 2 rfl) ?_
  refine gl_callL (As := []) (rest := [.long r]) XM (kX6_trace l (o := 0) rfl e2) (C := RX6) (T := TX6) (N := 39) (ci := 6) rfl rfl ⟨cdX6_trace, mlL_146, imX6_trace, seX6_trace, iniX6⟩ hvX6_trace ⟨Nat.le_of_ble_eq_true rfl, Nat.le_of_ble_eq_true rfl⟩ hM hS lw_aM XC.hD hC lw_dMC hl rfl rfl (Nat.le_of_ble_eq_true rfl) ⟨Nat.le_refl _, Nat.le_refl _⟩ dL_law_946 (fun H locs hM hC hS => ?_)
  refine W.lcmp XC.hx XC.hb dL_law_949 ?_
  refine lv_if_eq (tgt := 955) XC.hx XC.hb dL_law_950 (by decide) (fun _ => ?_) (fun c_ => absurd (lg_cmp_self _) c_)
  exact kk σ τ hR _ _ hC hM hS
set_option maxHeartbeats 4000000 in
set_option maxRecDepth 100000 in
theorem lw_loop {p : Program} {l : Launch} {e : Env} {s : State} {m : MethodId} {below : List Frame} {meth : Method} {c : Code} {b L : Nat} {xs : Nat → Int32} {D : va_G} {ca : Nat → ClassId} (C0 : lw_At p s m meth c b L xs) (S0 : lwS p s m meth c b L xs D ca) : ∀ (n i : Nat) (x3 : Int32), i ≤ L + 4 → L + 5 ≤ i + n → x3 = nI i → ∀ (σ τ : Mem), Rel σ τ → ∀ (H : Heap) (locs : List Loc), gH (GC D ca s.heap.size) σ H → gH (GM D ca (s.heap.size + 69)) τ H → va_S (fun q : Nat => s.heap.size ≤ q) s.heap H locs → ∀ (ls : Array Slot), lv_has ls 4 [(0, .ref b), (1, .ref (gad (GC D ca s.heap.size) 0 0)), (2, .ref (gad (GM D ca (s.heap.size + 69)) 0 0)), (3, .int x3)] → W p l e room_1 s m #[Value.ref b] below meth c H locs 600000 7302250 (lw_Z below #[Value.ref b] s) (F0 m 18 ls []) := by
  obtain ⟨hx, hb, hr, hml, hown, hts, hX, hbl, hlocks, hgv, -⟩ := C0
  have hL := S0.2.2.2.2
  have hbA : ¬ (fun q : Nat => s.heap.size ≤ q) b := Nat.not_le.mpr hbl
  intro n
  induction n with
  | zero =>
    intro i x3 h1 h2
    exact absurd h2 (by omega)
  | succ n ih =>
    intro i x3 hi hin ex σ τ hR H locs hC hM hS ls hl
    refine lv_iload_n hx hb dL_law_18 rfl (lv_at hl 3 rfl) ?_
    refine lv_aload_n hx hb dL_law_19 rfl (lv_at hl 0 rfl) ?_
    refine va_slen hx hb hX hbl hbA hS dL_law_20 ?_
    refine lv_iconst (v := 4) hx hb dL_law_21 (by decide) ?_
    refine lv_isub hx hb dL_law_22 ?_
    have hcmp : (nI L - 4 < x3) ↔ L < i + 4 := by
      rw [ex, Int32.lt_iff_toInt_lt]
      rw [show (nI L - 4 : Int32) = nI L - nI 4 from rfl, pk_sub_toInt (by omega) (by omega), nI_toInt (by omega)]
      omega
    refine lv_icmp_gt (tgt := 961) hx hb dL_law_23 (by decide) (fun c_ => ?_) (fun c_ => ?_)
    · refine lv_iconst (v := 1) hx hb dL_law_961 (by decide) ?_
      refine va_forget (fun q hq => hS.2.2 q hq) ?_
      exact lw_ret hx hb hr hlocks dL_law_962
    · have hi4 : i + 4 ≤ L := by
        rcases Nat.lt_or_ge L (i + 4) with q | q
        · exact absurd (hcmp.mpr q) c_
        · exact q
      have hi0 : vp_in x3 L := by rw [ex]; exact vp_in_nI (by omega) (by omega)
      refine lv_aload_n hx hb dL_law_26 rfl (lv_at hl 0 rfl) ?_
      refine lv_iload_n hx hb dL_law_27 rfl (lv_at hl 3 rfl) ?_
      refine va_sld hx hb hX hbl hbA hS hi0 dL_law_28 ?_
      refine lv_bipush (v := 31) hx hb dL_law_29 (by decide) ?_
      refine lv_iand hx hb dL_law_31 ?_
      have kk : ∀ (σ τ : Mem), Rel σ τ → ∀ (H : Heap) (locs : List Loc), gH (GC D ca s.heap.size) σ H → gH (GM D ca (s.heap.size + 69)) τ H → va_S (fun q : Nat => s.heap.size ≤ q) s.heap H locs → W p l e room_1 s m #[Value.ref b] below meth c H locs 600000 7302250 (lw_Z below #[Value.ref b] s) (F0 m 955 ls []) := by
        intro σ τ hR H locs hC hM hS
        refine lv_iinc (v := x3 + 4) (lv' := [(3, .int (x3 + 4)), (0, .ref b), (1, .ref (gad (GC D ca s.heap.size) 0 0)), (2, .ref (gad (GM D ca (s.heap.size + 69)) 0 0))]) hx hb dL_law_955 hl (k := 3) rfl rfl (by decide) rfl (fun ls hl => ?_)
        refine lv_goto (tgt := 18) hx hb dL_law_958 (by decide) ?_
        exact ih (i + 4) (x3 + 4) (by omega) (by omega) (by rw [ex]; exact nI_4 i) σ τ hR _ _ hC hM hS ls (lv_sub hl [1, 2, 3, 0] rfl)
      obtain ⟨j, hj, ej⟩ := pk_andE (xs x3.toNatClampNeg) (m := 31) 5 (by decide)
      rw [ej]
      match j, hj with
      | 0, _ => exact lv_tableIn (tgt := 176) hx hb dL_law_32 (by decide) (by decide) (off := 144) (by decide) (by decide) (lw_case0 S0 hi4 ex hR hC hM hS hl kk)
      | 1, _ => exact lv_tableIn (tgt := 199) hx hb dL_law_32 (by decide) (by decide) (off := 167) (by decide) (by decide) (lw_case1 S0 hi4 ex hR hC hM hS hl kk)
      | 2, _ => exact lv_tableIn (tgt := 212) hx hb dL_law_32 (by decide) (by decide) (off := 180) (by decide) (by decide) (lw_case2 S0 hi4 ex hR hC hM hS hl kk)
      | 3, _ => exact lv_tableIn (tgt := 225) hx hb dL_law_32 (by decide) (by decide) (off := 193) (by decide) (by decide) (lw_case3 S0 hi4 ex hR hC hM hS hl kk)
      | 4, _ => exact lv_tableIn (tgt := 258) hx hb dL_law_32 (by decide) (by decide) (off := 226) (by decide) (by decide) (lw_case4 S0 hi4 ex hR hC hM hS hl kk)
      | 5, _ => exact lv_tableIn (tgt := 291) hx hb dL_law_32 (by decide) (by decide) (off := 259) (by decide) (by decide) (lw_case5 S0 hi4 ex hR hC hM hS hl kk)
      | 6, _ => exact lv_tableIn (tgt := 314) hx hb dL_law_32 (by decide) (by decide) (off := 282) (by decide) (by decide) (lw_case6 S0 hi4 ex hR hC hM hS hl kk)
      | 7, _ => exact lv_tableIn (tgt := 347) hx hb dL_law_32 (by decide) (by decide) (off := 315) (by decide) (by decide) (lw_case7 S0 hi4 ex hR hC hM hS hl kk)
      | 8, _ => exact lv_tableIn (tgt := 360) hx hb dL_law_32 (by decide) (by decide) (off := 328) (by decide) (by decide) (lw_case8 S0 hi4 ex hR hC hM hS hl kk)
      | 9, _ => exact lv_tableIn (tgt := 383) hx hb dL_law_32 (by decide) (by decide) (off := 351) (by decide) (by decide) (lw_case9 S0 hi4 ex hR hC hM hS hl kk)
      | 10, _ => exact lv_tableIn (tgt := 396) hx hb dL_law_32 (by decide) (by decide) (off := 364) (by decide) (by decide) (lw_case10 S0 hi4 ex hR hC hM hS hl kk)
      | 11, _ => exact lv_tableIn (tgt := 429) hx hb dL_law_32 (by decide) (by decide) (off := 397) (by decide) (by decide) (lw_case11 S0 hi4 ex hR hC hM hS hl kk)
      | 12, _ => exact lv_tableIn (tgt := 452) hx hb dL_law_32 (by decide) (by decide) (off := 420) (by decide) (by decide) (lw_case12 S0 hi4 ex hR hC hM hS hl kk)
      | 13, _ => exact lv_tableIn (tgt := 485) hx hb dL_law_32 (by decide) (by decide) (off := 453) (by decide) (by decide) (lw_case13 S0 hi4 ex hR hC hM hS hl kk)
      | 14, _ => exact lv_tableIn (tgt := 508) hx hb dL_law_32 (by decide) (by decide) (off := 476) (by decide) (by decide) (lw_case14 S0 hi4 ex hR hC hM hS hl kk)
      | 15, _ => exact lv_tableIn (tgt := 541) hx hb dL_law_32 (by decide) (by decide) (off := 509) (by decide) (by decide) (lw_case15 S0 hi4 ex hR hC hM hS hl kk)
      | 16, _ => exact lv_tableIn (tgt := 575) hx hb dL_law_32 (by decide) (by decide) (off := 543) (by decide) (by decide) (lw_case16 S0 hi4 ex hR hC hM hS hl kk)
      | 17, _ => exact lv_tableIn (tgt := 619) hx hb dL_law_32 (by decide) (by decide) (off := 587) (by decide) (by decide) (lw_case17 S0 hi4 ex hR hC hM hS hl kk)
      | 18, _ => exact lv_tableIn (tgt := 642) hx hb dL_law_32 (by decide) (by decide) (off := 610) (by decide) (by decide) (lw_case18 S0 hi4 ex hR hC hM hS hl kk)
      | 19, _ => exact lv_tableIn (tgt := 655) hx hb dL_law_32 (by decide) (by decide) (off := 623) (by decide) (by decide) (lw_case19 S0 hi4 ex hR hC hM hS hl kk)
      | 20, _ => exact lv_tableIn (tgt := 678) hx hb dL_law_32 (by decide) (by decide) (off := 646) (by decide) (by decide) (lw_case20 S0 hi4 ex hR hC hM hS hl kk)
      | 21, _ => exact lv_tableIn (tgt := 701) hx hb dL_law_32 (by decide) (by decide) (off := 669) (by decide) (by decide) (lw_case21 S0 hi4 ex hR hC hM hS hl kk)
      | 22, _ => exact lv_tableIn (tgt := 724) hx hb dL_law_32 (by decide) (by decide) (off := 692) (by decide) (by decide) (lw_case22 S0 hi4 ex hR hC hM hS hl kk)
      | 23, _ => exact lv_tableIn (tgt := 737) hx hb dL_law_32 (by decide) (by decide) (off := 705) (by decide) (by decide) (lw_case23 S0 hi4 ex hR hC hM hS hl kk)
      | 24, _ => exact lv_tableIn (tgt := 760) hx hb dL_law_32 (by decide) (by decide) (off := 728) (by decide) (by decide) (lw_case24 S0 hi4 ex hR hC hM hS hl kk)
      | 25, _ => exact lv_tableIn (tgt := 783) hx hb dL_law_32 (by decide) (by decide) (off := 751) (by decide) (by decide) (lw_case25 S0 hi4 ex hR hC hM hS hl kk)
      | 26, _ => exact lv_tableIn (tgt := 806) hx hb dL_law_32 (by decide) (by decide) (off := 774) (by decide) (by decide) (lw_case26 S0 hi4 ex hR hC hM hS hl kk)
      | 27, _ => exact lv_tableIn (tgt := 839) hx hb dL_law_32 (by decide) (by decide) (off := 807) (by decide) (by decide) (lw_case27 S0 hi4 ex hR hC hM hS hl kk)
      | 28, _ => exact lv_tableIn (tgt := 872) hx hb dL_law_32 (by decide) (by decide) (off := 840) (by decide) (by decide) (lw_case28 S0 hi4 ex hR hC hM hS hl kk)
      | 29, _ => exact lv_tableIn (tgt := 895) hx hb dL_law_32 (by decide) (by decide) (off := 863) (by decide) (by decide) (lw_case29 S0 hi4 ex hR hC hM hS hl kk)
      | 30, _ => exact lv_tableIn (tgt := 918) hx hb dL_law_32 (by decide) (by decide) (off := 886) (by decide) (by decide) (lw_case30 S0 hi4 ex hR hC hM hS hl kk)
      | 31, _ => exact lv_tableIn (tgt := 941) hx hb dL_law_32 (by decide) (by decide) (off := 909) (by decide) (by decide) (lw_case31 S0 hi4 ex hR hC hM hS hl kk)
      | j + 32, hj => exact absurd hj (by omega)
set_option maxHeartbeats 4000000 in
set_option maxRecDepth 100000 in
theorem whole_start {p : Program} {e : Env} {s : State} {m : MethodId} {below : List Frame} {meth : Method} {c : Code} (l : Launch) {b L : Nat} {xs : Nat → Int32} (hL : L ≤ 256) (C0 : lw_At p s m meth c b L xs) : W p l e room_1 s m #[Value.ref b] below meth c s.heap [] 0 0 (lw_Z below #[Value.ref b] s) (entryFrame m ([Value.ref b] : List Value).toArray 4) := by
  obtain ⟨hx, hb, hr, hml, hown, hts, hX, hbl, hlocks, hgv, hcw⟩ := id C0
  obtain ⟨D, hDk⟩ : ∃ D : va_G, ∀ (k : Nat) (q : vw_C), vwCl[k]? = some q → u_Kn s q.1 q.2.1 q.2.2 (D.1 k) (D.2 k) := by
    obtain ⟨c0, iS0, hKn0⟩ := u_known (C := RX0) (T := TX0) (N := 3) (n := 3) hts (fun w h => (List.mem_filter.mp (inX0 w h)).1) (hts _ (List.mem_filter.mp insX0).1)
    obtain ⟨c1, iS1, hKn1⟩ := u_known (C := RX1) (T := TX1) (N := 11) (n := 11) hts (fun w h => (List.mem_filter.mp (inX1 w h)).1) (hts _ (List.mem_filter.mp insX1).1)
    obtain ⟨c2, iS2, hKn2⟩ := u_known (C := RX2) (T := TX2) (N := 6) (n := 6) hts (fun w h => (List.mem_filter.mp (inX2 w h)).1) (hts _ (List.mem_filter.mp insX2).1)
    obtain ⟨c3, iS3, hKn3⟩ := u_known (C := RX3) (T := TX3) (N := 5) (n := 5) hts (fun w h => (List.mem_filter.mp (inX3 w h)).1) (hts _ (List.mem_filter.mp insX3).1)
    obtain ⟨c4, iS4, hKn4⟩ := u_known (C := RX4) (T := TX4) (N := 10) (n := 10) hts (fun w h => (List.mem_filter.mp (inX4 w h)).1) (hts _ (List.mem_filter.mp insX4).1)
    obtain ⟨c5, iS5, hKn5⟩ := u_known (C := RX5) (T := TX5) (N := 14) (n := 14) hts (fun w h => (List.mem_filter.mp (inX5 w h)).1) (hts _ (List.mem_filter.mp insX5).1)
    obtain ⟨c6, iS6, hKn6⟩ := u_known (C := RX6) (T := TX6) (N := 39) (n := 39) hts (fun w h => (List.mem_filter.mp (inX6 w h)).1) (hts _ (List.mem_filter.mp insX6).1)
    refine ⟨(fun k => if k = 0 then c0 else if k = 1 then c1 else if k = 2 then c2 else if k = 3 then c3 else if k = 4 then c4 else if k = 5 then c5 else c6, fun k => if k = 0 then iS0 else if k = 1 then iS1 else if k = 2 then iS2 else if k = 3 then iS3 else if k = 4 then iS4 else if k = 5 then iS5 else iS6), ?_⟩
    intro k q hq
    match k, hq with
    | 0, hq => cases hq; exact hKn0
    | 1, hq => cases hq; exact hKn1
    | 2, hq => cases hq; exact hKn2
    | 3, hq => cases hq; exact hKn3
    | 4, hq => cases hq; exact hKn4
    | 5, hq => cases hq; exact hKn5
    | 6, hq => cases hq; exact hKn6
    | k + 7, hq => simp [vwCl] at hq
  obtain ⟨cAI, kAI, cpI, f1I, f2I, f3I⟩ := Cond.arrayClass_spec (type := .int) (hts _ (List.mem_filter.mp acI).1)
  obtain ⟨cAZ, kAZ, cpZ, f1Z, f2Z, f3Z⟩ := Cond.arrayClass_spec (type := .boolean) (hts _ (List.mem_filter.mp acZ).1)
  obtain ⟨cAJ, kAJ, cpJ, f1J, f2J, f3J⟩ := Cond.arrayClass_spec (type := .long) (hts _ (List.mem_filter.mp acJ).1)
  have hao : va_AO RX2 s := va_AO.of (hts (.arrayOver (.object RX2)) (List.mem_append_right _ (by decide +kernel)))
  obtain ⟨cpN, cAN, kAN, f4N, -, f2N, f3N, f1N⟩ := Cond.arrayOver_spec hao
  obtain ⟨ca, hcI, hcZ, hcJ, hcN⟩ : ∃ ca : Nat → ClassId, ca 4 = cAI ∧ ca 5 = cAZ ∧ ca 6 = cAJ ∧ ca 7 = cAN := ⟨fun k => if k = 4 then cAI else if k = 5 then cAZ else if k = 6 then cAJ else cAN, rfl, rfl, rfl, rfl⟩
  subst hcI; subst hcZ; subst hcJ; subst hcN
  have hK0 : ∀ (sh : Nat → Option Nat) (ad : Nat → Nat → Nat) (A : Nat → Prop), gK (D, ca, sh, ad, A) s := by
    intro sh ad A
    refine ⟨⟨hDk, fun k q hq => ?_⟩, va_Nw.of rfl (hts nw0 (List.mem_append_right _ (by decide +kernel))), va_Nw.of rfl (hts nw1 (List.mem_append_right _ (by decide +kernel))), va_Nw.of rfl (hts nw2 (List.mem_append_right _ (by decide +kernel))), va_Nw.of rfl (hts nw3 (List.mem_append_right _ (by decide +kernel)))⟩
    match k, hq with
    | 0, hq => cases hq; exact ⟨fun n z => ⟨fun k h => (by cases h), kAI, f2I, cpI, f3I⟩, f1I⟩
    | 1, hq => cases hq; exact ⟨fun n z => ⟨fun k h => (by cases h), kAZ, f2Z, cpZ, f3Z⟩, f1Z⟩
    | 2, hq => cases hq; exact ⟨fun n z => ⟨fun k h => (by cases h), kAJ, f2J, cpJ, f3J⟩, f1J⟩
    | 3, hq => cases hq; exact ⟨fun n z => ⟨fun k h => (by cases h), kAN, f2N, cpN, f3N⟩, kAN, cpN, f2N, f3N, f4N, f1N⟩
    | k + 4, hq => simp [gty] at hq
  have hwm : ∀ w ∈ wm x code 4 ret, w.before #[Value.ref b] s = true := fun w hw => by
    rcases List.mem_cons.mp hw with e | e
    · subst e; exact hcw
    · exact hts w (List.mem_filter.mp e).1
  have hXG : ∀ G : gG, gD G → gK G s → lwX p s m meth c b G := fun G h1 h2 => ⟨hx, hb, hml, hown, hwm, hlocks, hr, h1, h2⟩
  have XA : aX p s m #[Value.ref b] meth c x code 4 ret RL (D, ca, fun _ => none, fun _ _ => 0, fun _ => False) := ⟨hx, hb, hml, hown, hwm, hlocks, hao, hK0 _ _ _⟩
  have hA : ∀ q : Nat, s.heap.size ≤ q → (fun q : Nat => s.heap.size ≤ q) q := fun _ h => h
  have ha : ax (D, ca, fun _ => none, fun _ _ => 0, fun _ => False) (fun q : Nat => s.heap.size ≤ q) s.heap [] s.heap.size s.heap [] := ⟨fun k q h => by simp at h, ⟨fun i j p q h => by simp at h, fun k q h => by simp at h⟩, va_S.rf, rfl⟩
  have hl := lv_entry ([.ref b]) (n := 4) (Nat.le_of_ble_eq_true rfl)
  rw [lg_entry_eq]
  generalize (lg_sl ([.ref b]) ++ List.replicate (4 - (lg_sl ([.ref b])).length) Slot.unset).toArray = ls at hl ⊢
  have hl : lv_has ls 4 [(0, .ref b)] := hl
  refine ax_new XA ha hA inX5 (C := RX5) (T := TX5) (N := 14) (ci := 5) rfl tyX5 tyX5_ok clL_7 insX5 iniX5 (fs := [.null, .null, .null, .null, .null, .null, .int 0, .null, .null, .null, .int 0, .null, .null, .long 0]) dfX5 (Nat.le_of_ble_eq_true rfl) (Nat.le_of_ble_eq_true rfl) dL_law_0 (fun H ha => ?_)
  refine lv_dup hx hb dL_law_3 rfl ?_
  refine ax_callI (rest := [.ref s.heap.size]) (wc := [(s.heap.size, .inr (5, [.null, .null, .null, .null, .null, .null, .int 0, .null, .null, .null, .int 0, .null, .null, .long 0]))]) (wr := []) (w1 := [(s.heap.size, .inr (5, [.ref (s.heap.size + 1), .ref (s.heap.size + 1 + 3), .ref (s.heap.size + 1 + 10), .ref (s.heap.size + 1 + 17), .ref (s.heap.size + 1 + 20), .ref (s.heap.size + 1 + 52), .int 0, .ref (s.heap.size + 1 + 53), .ref (s.heap.size + 1 + 58), .ref (s.heap.size + 1 + 59), .int 0, .ref (s.heap.size + 1 + 60), .ref (s.heap.size + 1 + 61), .long 0])), ((s.heap.size + 1), .inr (4, [.int 0, .ref (s.heap.size + 1 + 1), .int 0, .int 0, .int 0, .int 0, .ref (s.heap.size + 1 + 2), .int 0, .int 0, .int 0])), ((s.heap.size + 1 + 1), .inl (ca 4, 200, .inl (fun _ => 0))), ((s.heap.size + 1 + 2), .inl (ca 4, 3, .inl (fun _ => 0))), ((s.heap.size + 1 + 4), .inl (ca 4, 6, .inl (fun _ => 0))), ((s.heap.size + 1 + 5), .inl (ca 4, 6, .inl (fun _ => 0))), ((s.heap.size + 1 + 6), .inl (ca 4, 6, .inl (fun _ => 0))), ((s.heap.size + 1 + 7), .inl (ca 4, 4, .inl (fun _ => 0))), ((s.heap.size + 1 + 8), .inl (ca 4, 4, .inl (fun _ => 0))), ((s.heap.size + 1 + 9), .inl (ca 4, 4, .inl (fun _ => 0))), ((s.heap.size + 1 + 3), .inr (1, [.int 10, .int 2, .int 1, .int 0, .int 0, .ref (s.heap.size + 1 + 4), .ref (s.heap.size + 1 + 5), .ref (s.heap.size + 1 + 6), .ref (s.heap.size + 1 + 7), .ref (s.heap.size + 1 + 8), .ref (s.heap.size + 1 + 9)])), ((s.heap.size + 1 + 11), .inl (ca 4, 6, .inl (fun _ => 0))), ((s.heap.size + 1 + 12), .inl (ca 4, 6, .inl (fun _ => 0))), ((s.heap.size + 1 + 13), .inl (ca 4, 6, .inl (fun _ => 0))), ((s.heap.size + 1 + 14), .inl (ca 4, 4, .inl (fun _ => 0))), ((s.heap.size + 1 + 15), .inl (ca 4, 4, .inl (fun _ => 0))), ((s.heap.size + 1 + 16), .inl (ca 4, 4, .inl (fun _ => 0))), ((s.heap.size + 1 + 10), .inr (1, [.int 10, .int 2, .int 1, .int 0, .int 0, .ref (s.heap.size + 1 + 11), .ref (s.heap.size + 1 + 12), .ref (s.heap.size + 1 + 13), .ref (s.heap.size + 1 + 14), .ref (s.heap.size + 1 + 15), .ref (s.heap.size + 1 + 16)])), ((s.heap.size + 1 + 17), .inr (2, [.int 0, .int 0, .int 0, .int 1, .ref (s.heap.size + 1 + 18), .ref (s.heap.size + 1 + 19)])), ((s.heap.size + 1 + 18), .inl (ca 4, 3, .inl (fun _ => 0))), ((s.heap.size + 1 + 19), .inl (ca 4, 3, .inl (fun _ => 0))), ((s.heap.size + 1 + 20), .inr (0, [.int 0, .int 0, .ref (s.heap.size + 1 + 21)])), ((s.heap.size + 1 + 21), .inl (ca 7, 10, .inr (.inr (.inr (.inr (va_up (va_up (va_up (va_up (va_up (va_up (va_up (va_up (va_up (va_up (fun _ => none) 0 (some (s.heap.size + 1 + 22))) 1 (some (s.heap.size + 1 + 25))) 2 (some (s.heap.size + 1 + 28))) 3 (some (s.heap.size + 1 + 31))) 4 (some (s.heap.size + 1 + 34))) 5 (some (s.heap.size + 1 + 37))) 6 (some (s.heap.size + 1 + 40))) 7 (some (s.heap.size + 1 + 43))) 8 (some (s.heap.size + 1 + 46))) 9 (some (s.heap.size + 1 + 49)))))))), ((s.heap.size + 1 + 22), .inr (2, [.int 0, .int 0, .int 0, .int 1, .ref (s.heap.size + 1 + 23), .ref (s.heap.size + 1 + 24)])), ((s.heap.size + 1 + 23), .inl (ca 4, 3, .inl (fun _ => 0))), ((s.heap.size + 1 + 24), .inl (ca 4, 3, .inl (fun _ => 0))), ((s.heap.size + 1 + 25), .inr (2, [.int 0, .int 0, .int 0, .int 1, .ref (s.heap.size + 1 + 26), .ref (s.heap.size + 1 + 27)])), ((s.heap.size + 1 + 26), .inl (ca 4, 3, .inl (fun _ => 0))), ((s.heap.size + 1 + 27), .inl (ca 4, 3, .inl (fun _ => 0))), ((s.heap.size + 1 + 28), .inr (2, [.int 0, .int 0, .int 0, .int 1, .ref (s.heap.size + 1 + 29), .ref (s.heap.size + 1 + 30)])), ((s.heap.size + 1 + 29), .inl (ca 4, 3, .inl (fun _ => 0))), ((s.heap.size + 1 + 30), .inl (ca 4, 3, .inl (fun _ => 0))), ((s.heap.size + 1 + 31), .inr (2, [.int 0, .int 0, .int 0, .int 1, .ref (s.heap.size + 1 + 32), .ref (s.heap.size + 1 + 33)])), ((s.heap.size + 1 + 32), .inl (ca 4, 3, .inl (fun _ => 0))), ((s.heap.size + 1 + 33), .inl (ca 4, 3, .inl (fun _ => 0))), ((s.heap.size + 1 + 34), .inr (2, [.int 0, .int 0, .int 0, .int 1, .ref (s.heap.size + 1 + 35), .ref (s.heap.size + 1 + 36)])), ((s.heap.size + 1 + 35), .inl (ca 4, 3, .inl (fun _ => 0))), ((s.heap.size + 1 + 36), .inl (ca 4, 3, .inl (fun _ => 0))), ((s.heap.size + 1 + 37), .inr (2, [.int 0, .int 0, .int 0, .int 1, .ref (s.heap.size + 1 + 38), .ref (s.heap.size + 1 + 39)])), ((s.heap.size + 1 + 38), .inl (ca 4, 3, .inl (fun _ => 0))), ((s.heap.size + 1 + 39), .inl (ca 4, 3, .inl (fun _ => 0))), ((s.heap.size + 1 + 40), .inr (2, [.int 0, .int 0, .int 0, .int 1, .ref (s.heap.size + 1 + 41), .ref (s.heap.size + 1 + 42)])), ((s.heap.size + 1 + 41), .inl (ca 4, 3, .inl (fun _ => 0))), ((s.heap.size + 1 + 42), .inl (ca 4, 3, .inl (fun _ => 0))), ((s.heap.size + 1 + 43), .inr (2, [.int 0, .int 0, .int 0, .int 1, .ref (s.heap.size + 1 + 44), .ref (s.heap.size + 1 + 45)])), ((s.heap.size + 1 + 44), .inl (ca 4, 3, .inl (fun _ => 0))), ((s.heap.size + 1 + 45), .inl (ca 4, 3, .inl (fun _ => 0))), ((s.heap.size + 1 + 46), .inr (2, [.int 0, .int 0, .int 0, .int 1, .ref (s.heap.size + 1 + 47), .ref (s.heap.size + 1 + 48)])), ((s.heap.size + 1 + 47), .inl (ca 4, 3, .inl (fun _ => 0))), ((s.heap.size + 1 + 48), .inl (ca 4, 3, .inl (fun _ => 0))), ((s.heap.size + 1 + 49), .inr (2, [.int 0, .int 0, .int 0, .int 1, .ref (s.heap.size + 1 + 50), .ref (s.heap.size + 1 + 51)])), ((s.heap.size + 1 + 50), .inl (ca 4, 3, .inl (fun _ => 0))), ((s.heap.size + 1 + 51), .inl (ca 4, 3, .inl (fun _ => 0))), ((s.heap.size + 1 + 52), .inl (ca 7, 2, .inr (.inr (.inr (.inr (va_up (va_up (fun _ => none) 0 (some (s.heap.size + 1 + 62))) 1 (some (s.heap.size + 1 + 65)))))))), ((s.heap.size + 1 + 53), .inr (3, [.ref (s.heap.size + 1 + 54), .ref (s.heap.size + 1 + 55), .ref (s.heap.size + 1 + 56), .ref (s.heap.size + 1 + 57), .int 0])), ((s.heap.size + 1 + 54), .inl (ca 4, 6, .inl (fun _ => 0))), ((s.heap.size + 1 + 55), .inl (ca 4, 3, .inl (fun _ => 0))), ((s.heap.size + 1 + 56), .inl (ca 4, 64, .inl (fun _ => 0))), ((s.heap.size + 1 + 57), .inl (ca 4, 64, .inl (fun _ => 0))), ((s.heap.size + 1 + 58), .inl (ca 4, 4, .inl (fun _ => 0))), ((s.heap.size + 1 + 59), .inl (ca 4, 4, .inl (fun _ => 0))), ((s.heap.size + 1 + 60), .inl (ca 4, 4, .inl (fun _ => 0))), ((s.heap.size + 1 + 61), .inl (ca 4, 7, .inl (fun _ => 0))), ((s.heap.size + 1 + 62), .inr (2, [.int 0, .int 0, .int 0, .int 1, .ref (s.heap.size + 1 + 63), .ref (s.heap.size + 1 + 64)])), ((s.heap.size + 1 + 63), .inl (ca 4, 3, .inl (fun _ => 0))), ((s.heap.size + 1 + 64), .inl (ca 4, 3, .inl (fun _ => 0))), ((s.heap.size + 1 + 65), .inr (2, [.int 0, .int 0, .int 0, .int 1, .ref (s.heap.size + 1 + 66), .ref (s.heap.size + 1 + 67)])), ((s.heap.size + 1 + 66), .inl (ca 4, 3, .inl (fun _ => 0))), ((s.heap.size + 1 + 67), .inl (ca 4, 3, .inl (fun _ => 0)))]) XA (kcX5_init l (G := (D, ca, fun _ => none, fun _ _ => 0, fun _ => False)) (h0 := s.heap.size) (sz := s.heap.size + 1)) ⟨cdX5_init, mlL_9, imX5_init, iniX5⟩ rfl (by decide +kernel) ⟨Nat.le_of_ble_eq_true rfl, Nat.le_of_ble_eq_true rfl⟩ ha hA [0] [] rfl rfl rfl rfl (by decide) (by decide) hl (Nat.le_of_ble_eq_true rfl) ⟨Nat.le_of_ble_eq_true rfl, Nat.le_of_ble_eq_true rfl⟩ dL_law_4 (fun H locs ha => ?_)
  have ha : ax (D, ca, fun _ => none, fun _ _ => 0, fun _ => False) (fun q : Nat => s.heap.size ≤ q) s.heap [(s.heap.size, .inr (5, [.ref (s.heap.size + 1), .ref (s.heap.size + 1 + 3), .ref (s.heap.size + 1 + 10), .ref (s.heap.size + 1 + 17), .ref (s.heap.size + 1 + 20), .ref (s.heap.size + 1 + 52), .int 0, .ref (s.heap.size + 1 + 53), .ref (s.heap.size + 1 + 58), .ref (s.heap.size + 1 + 59), .int 0, .ref (s.heap.size + 1 + 60), .ref (s.heap.size + 1 + 61), .long 0])), ((s.heap.size + 1), .inr (4, [.int 0, .ref (s.heap.size + 1 + 1), .int 0, .int 0, .int 0, .int 0, .ref (s.heap.size + 1 + 2), .int 0, .int 0, .int 0])), ((s.heap.size + 1 + 1), .inl (ca 4, 200, .inl (fun _ => 0))), ((s.heap.size + 1 + 2), .inl (ca 4, 3, .inl (fun _ => 0))), ((s.heap.size + 1 + 4), .inl (ca 4, 6, .inl (fun _ => 0))), ((s.heap.size + 1 + 5), .inl (ca 4, 6, .inl (fun _ => 0))), ((s.heap.size + 1 + 6), .inl (ca 4, 6, .inl (fun _ => 0))), ((s.heap.size + 1 + 7), .inl (ca 4, 4, .inl (fun _ => 0))), ((s.heap.size + 1 + 8), .inl (ca 4, 4, .inl (fun _ => 0))), ((s.heap.size + 1 + 9), .inl (ca 4, 4, .inl (fun _ => 0))), ((s.heap.size + 1 + 3), .inr (1, [.int 10, .int 2, .int 1, .int 0, .int 0, .ref (s.heap.size + 1 + 4), .ref (s.heap.size + 1 + 5), .ref (s.heap.size + 1 + 6), .ref (s.heap.size + 1 + 7), .ref (s.heap.size + 1 + 8), .ref (s.heap.size + 1 + 9)])), ((s.heap.size + 1 + 11), .inl (ca 4, 6, .inl (fun _ => 0))), ((s.heap.size + 1 + 12), .inl (ca 4, 6, .inl (fun _ => 0))), ((s.heap.size + 1 + 13), .inl (ca 4, 6, .inl (fun _ => 0))), ((s.heap.size + 1 + 14), .inl (ca 4, 4, .inl (fun _ => 0))), ((s.heap.size + 1 + 15), .inl (ca 4, 4, .inl (fun _ => 0))), ((s.heap.size + 1 + 16), .inl (ca 4, 4, .inl (fun _ => 0))), ((s.heap.size + 1 + 10), .inr (1, [.int 10, .int 2, .int 1, .int 0, .int 0, .ref (s.heap.size + 1 + 11), .ref (s.heap.size + 1 + 12), .ref (s.heap.size + 1 + 13), .ref (s.heap.size + 1 + 14), .ref (s.heap.size + 1 + 15), .ref (s.heap.size + 1 + 16)])), ((s.heap.size + 1 + 17), .inr (2, [.int 0, .int 0, .int 0, .int 1, .ref (s.heap.size + 1 + 18), .ref (s.heap.size + 1 + 19)])), ((s.heap.size + 1 + 18), .inl (ca 4, 3, .inl (fun _ => 0))), ((s.heap.size + 1 + 19), .inl (ca 4, 3, .inl (fun _ => 0))), ((s.heap.size + 1 + 20), .inr (0, [.int 0, .int 0, .ref (s.heap.size + 1 + 21)])), ((s.heap.size + 1 + 21), .inl (ca 7, 10, .inr (.inr (.inr (.inr (va_up (va_up (va_up (va_up (va_up (va_up (va_up (va_up (va_up (va_up (fun _ => none) 0 (some (s.heap.size + 1 + 22))) 1 (some (s.heap.size + 1 + 25))) 2 (some (s.heap.size + 1 + 28))) 3 (some (s.heap.size + 1 + 31))) 4 (some (s.heap.size + 1 + 34))) 5 (some (s.heap.size + 1 + 37))) 6 (some (s.heap.size + 1 + 40))) 7 (some (s.heap.size + 1 + 43))) 8 (some (s.heap.size + 1 + 46))) 9 (some (s.heap.size + 1 + 49)))))))), ((s.heap.size + 1 + 22), .inr (2, [.int 0, .int 0, .int 0, .int 1, .ref (s.heap.size + 1 + 23), .ref (s.heap.size + 1 + 24)])), ((s.heap.size + 1 + 23), .inl (ca 4, 3, .inl (fun _ => 0))), ((s.heap.size + 1 + 24), .inl (ca 4, 3, .inl (fun _ => 0))), ((s.heap.size + 1 + 25), .inr (2, [.int 0, .int 0, .int 0, .int 1, .ref (s.heap.size + 1 + 26), .ref (s.heap.size + 1 + 27)])), ((s.heap.size + 1 + 26), .inl (ca 4, 3, .inl (fun _ => 0))), ((s.heap.size + 1 + 27), .inl (ca 4, 3, .inl (fun _ => 0))), ((s.heap.size + 1 + 28), .inr (2, [.int 0, .int 0, .int 0, .int 1, .ref (s.heap.size + 1 + 29), .ref (s.heap.size + 1 + 30)])), ((s.heap.size + 1 + 29), .inl (ca 4, 3, .inl (fun _ => 0))), ((s.heap.size + 1 + 30), .inl (ca 4, 3, .inl (fun _ => 0))), ((s.heap.size + 1 + 31), .inr (2, [.int 0, .int 0, .int 0, .int 1, .ref (s.heap.size + 1 + 32), .ref (s.heap.size + 1 + 33)])), ((s.heap.size + 1 + 32), .inl (ca 4, 3, .inl (fun _ => 0))), ((s.heap.size + 1 + 33), .inl (ca 4, 3, .inl (fun _ => 0))), ((s.heap.size + 1 + 34), .inr (2, [.int 0, .int 0, .int 0, .int 1, .ref (s.heap.size + 1 + 35), .ref (s.heap.size + 1 + 36)])), ((s.heap.size + 1 + 35), .inl (ca 4, 3, .inl (fun _ => 0))), ((s.heap.size + 1 + 36), .inl (ca 4, 3, .inl (fun _ => 0))), ((s.heap.size + 1 + 37), .inr (2, [.int 0, .int 0, .int 0, .int 1, .ref (s.heap.size + 1 + 38), .ref (s.heap.size + 1 + 39)])), ((s.heap.size + 1 + 38), .inl (ca 4, 3, .inl (fun _ => 0))), ((s.heap.size + 1 + 39), .inl (ca 4, 3, .inl (fun _ => 0))), ((s.heap.size + 1 + 40), .inr (2, [.int 0, .int 0, .int 0, .int 1, .ref (s.heap.size + 1 + 41), .ref (s.heap.size + 1 + 42)])), ((s.heap.size + 1 + 41), .inl (ca 4, 3, .inl (fun _ => 0))), ((s.heap.size + 1 + 42), .inl (ca 4, 3, .inl (fun _ => 0))), ((s.heap.size + 1 + 43), .inr (2, [.int 0, .int 0, .int 0, .int 1, .ref (s.heap.size + 1 + 44), .ref (s.heap.size + 1 + 45)])), ((s.heap.size + 1 + 44), .inl (ca 4, 3, .inl (fun _ => 0))), ((s.heap.size + 1 + 45), .inl (ca 4, 3, .inl (fun _ => 0))), ((s.heap.size + 1 + 46), .inr (2, [.int 0, .int 0, .int 0, .int 1, .ref (s.heap.size + 1 + 47), .ref (s.heap.size + 1 + 48)])), ((s.heap.size + 1 + 47), .inl (ca 4, 3, .inl (fun _ => 0))), ((s.heap.size + 1 + 48), .inl (ca 4, 3, .inl (fun _ => 0))), ((s.heap.size + 1 + 49), .inr (2, [.int 0, .int 0, .int 0, .int 1, .ref (s.heap.size + 1 + 50), .ref (s.heap.size + 1 + 51)])), ((s.heap.size + 1 + 50), .inl (ca 4, 3, .inl (fun _ => 0))), ((s.heap.size + 1 + 51), .inl (ca 4, 3, .inl (fun _ => 0))), ((s.heap.size + 1 + 52), .inl (ca 7, 2, .inr (.inr (.inr (.inr (va_up (va_up (fun _ => none) 0 (some (s.heap.size + 1 + 62))) 1 (some (s.heap.size + 1 + 65)))))))), ((s.heap.size + 1 + 53), .inr (3, [.ref (s.heap.size + 1 + 54), .ref (s.heap.size + 1 + 55), .ref (s.heap.size + 1 + 56), .ref (s.heap.size + 1 + 57), .int 0])), ((s.heap.size + 1 + 54), .inl (ca 4, 6, .inl (fun _ => 0))), ((s.heap.size + 1 + 55), .inl (ca 4, 3, .inl (fun _ => 0))), ((s.heap.size + 1 + 56), .inl (ca 4, 64, .inl (fun _ => 0))), ((s.heap.size + 1 + 57), .inl (ca 4, 64, .inl (fun _ => 0))), ((s.heap.size + 1 + 58), .inl (ca 4, 4, .inl (fun _ => 0))), ((s.heap.size + 1 + 59), .inl (ca 4, 4, .inl (fun _ => 0))), ((s.heap.size + 1 + 60), .inl (ca 4, 4, .inl (fun _ => 0))), ((s.heap.size + 1 + 61), .inl (ca 4, 7, .inl (fun _ => 0))), ((s.heap.size + 1 + 62), .inr (2, [.int 0, .int 0, .int 0, .int 1, .ref (s.heap.size + 1 + 63), .ref (s.heap.size + 1 + 64)])), ((s.heap.size + 1 + 63), .inl (ca 4, 3, .inl (fun _ => 0))), ((s.heap.size + 1 + 64), .inl (ca 4, 3, .inl (fun _ => 0))), ((s.heap.size + 1 + 65), .inr (2, [.int 0, .int 0, .int 0, .int 1, .ref (s.heap.size + 1 + 66), .ref (s.heap.size + 1 + 67)])), ((s.heap.size + 1 + 66), .inl (ca 4, 3, .inl (fun _ => 0))), ((s.heap.size + 1 + 67), .inl (ca 4, 3, .inl (fun _ => 0)))] (s.heap.size + 69) _ _ := ha
  refine lv_astore_n (lv' := [(1, .ref s.heap.size), (0, .ref b)]) hx hb dL_law_7 rfl hl (by decide) rfl (fun ls hl => ?_)
  refine ax_new XA ha hA inX6 (C := RX6) (T := TX6) (N := 39) (ci := 6) rfl tyX6 tyX6_ok clL_10 insX6 iniX6 (fs := [.int 0, .int 0, .int 0, .int 0, .null, .int 0, .null, .null, .null, .int 0, .null, .null, .int 0, .int 0, .null, .null, .long 0, .null, .int 0, .int 0, .int 0, .int 0, .int 0, .int 0, .int 0, .null, .int 0, .null, .null, .int 0, .null, .null, .null, .null, .null, .null, .null, .int 0, .null]) dfX6 (Nat.le_of_ble_eq_true rfl) (Nat.le_of_ble_eq_true rfl) dL_law_8 (fun H ha => ?_)
  refine lv_dup hx hb dL_law_11 rfl ?_
  refine ax_callI (rest := [.ref (s.heap.size + 69)]) (wc := [(s.heap.size + 69, .inr (6, [.int 0, .int 0, .int 0, .int 0, .null, .int 0, .null, .null, .null, .int 0, .null, .null, .int 0, .int 0, .null, .null, .long 0, .null, .int 0, .int 0, .int 0, .int 0, .int 0, .int 0, .int 0, .null, .int 0, .null, .null, .int 0, .null, .null, .null, .null, .null, .null, .null, .int 0, .null]))]) (wr := [(s.heap.size, .inr (5, [.ref (s.heap.size + 1), .ref (s.heap.size + 1 + 3), .ref (s.heap.size + 1 + 10), .ref (s.heap.size + 1 + 17), .ref (s.heap.size + 1 + 20), .ref (s.heap.size + 1 + 52), .int 0, .ref (s.heap.size + 1 + 53), .ref (s.heap.size + 1 + 58), .ref (s.heap.size + 1 + 59), .int 0, .ref (s.heap.size + 1 + 60), .ref (s.heap.size + 1 + 61), .long 0])), ((s.heap.size + 1), .inr (4, [.int 0, .ref (s.heap.size + 1 + 1), .int 0, .int 0, .int 0, .int 0, .ref (s.heap.size + 1 + 2), .int 0, .int 0, .int 0])), ((s.heap.size + 1 + 1), .inl (ca 4, 200, .inl (fun _ => 0))), ((s.heap.size + 1 + 2), .inl (ca 4, 3, .inl (fun _ => 0))), ((s.heap.size + 1 + 4), .inl (ca 4, 6, .inl (fun _ => 0))), ((s.heap.size + 1 + 5), .inl (ca 4, 6, .inl (fun _ => 0))), ((s.heap.size + 1 + 6), .inl (ca 4, 6, .inl (fun _ => 0))), ((s.heap.size + 1 + 7), .inl (ca 4, 4, .inl (fun _ => 0))), ((s.heap.size + 1 + 8), .inl (ca 4, 4, .inl (fun _ => 0))), ((s.heap.size + 1 + 9), .inl (ca 4, 4, .inl (fun _ => 0))), ((s.heap.size + 1 + 3), .inr (1, [.int 10, .int 2, .int 1, .int 0, .int 0, .ref (s.heap.size + 1 + 4), .ref (s.heap.size + 1 + 5), .ref (s.heap.size + 1 + 6), .ref (s.heap.size + 1 + 7), .ref (s.heap.size + 1 + 8), .ref (s.heap.size + 1 + 9)])), ((s.heap.size + 1 + 11), .inl (ca 4, 6, .inl (fun _ => 0))), ((s.heap.size + 1 + 12), .inl (ca 4, 6, .inl (fun _ => 0))), ((s.heap.size + 1 + 13), .inl (ca 4, 6, .inl (fun _ => 0))), ((s.heap.size + 1 + 14), .inl (ca 4, 4, .inl (fun _ => 0))), ((s.heap.size + 1 + 15), .inl (ca 4, 4, .inl (fun _ => 0))), ((s.heap.size + 1 + 16), .inl (ca 4, 4, .inl (fun _ => 0))), ((s.heap.size + 1 + 10), .inr (1, [.int 10, .int 2, .int 1, .int 0, .int 0, .ref (s.heap.size + 1 + 11), .ref (s.heap.size + 1 + 12), .ref (s.heap.size + 1 + 13), .ref (s.heap.size + 1 + 14), .ref (s.heap.size + 1 + 15), .ref (s.heap.size + 1 + 16)])), ((s.heap.size + 1 + 17), .inr (2, [.int 0, .int 0, .int 0, .int 1, .ref (s.heap.size + 1 + 18), .ref (s.heap.size + 1 + 19)])), ((s.heap.size + 1 + 18), .inl (ca 4, 3, .inl (fun _ => 0))), ((s.heap.size + 1 + 19), .inl (ca 4, 3, .inl (fun _ => 0))), ((s.heap.size + 1 + 20), .inr (0, [.int 0, .int 0, .ref (s.heap.size + 1 + 21)])), ((s.heap.size + 1 + 21), .inl (ca 7, 10, .inr (.inr (.inr (.inr (va_up (va_up (va_up (va_up (va_up (va_up (va_up (va_up (va_up (va_up (fun _ => none) 0 (some (s.heap.size + 1 + 22))) 1 (some (s.heap.size + 1 + 25))) 2 (some (s.heap.size + 1 + 28))) 3 (some (s.heap.size + 1 + 31))) 4 (some (s.heap.size + 1 + 34))) 5 (some (s.heap.size + 1 + 37))) 6 (some (s.heap.size + 1 + 40))) 7 (some (s.heap.size + 1 + 43))) 8 (some (s.heap.size + 1 + 46))) 9 (some (s.heap.size + 1 + 49)))))))), ((s.heap.size + 1 + 22), .inr (2, [.int 0, .int 0, .int 0, .int 1, .ref (s.heap.size + 1 + 23), .ref (s.heap.size + 1 + 24)])), ((s.heap.size + 1 + 23), .inl (ca 4, 3, .inl (fun _ => 0))), ((s.heap.size + 1 + 24), .inl (ca 4, 3, .inl (fun _ => 0))), ((s.heap.size + 1 + 25), .inr (2, [.int 0, .int 0, .int 0, .int 1, .ref (s.heap.size + 1 + 26), .ref (s.heap.size + 1 + 27)])), ((s.heap.size + 1 + 26), .inl (ca 4, 3, .inl (fun _ => 0))), ((s.heap.size + 1 + 27), .inl (ca 4, 3, .inl (fun _ => 0))), ((s.heap.size + 1 + 28), .inr (2, [.int 0, .int 0, .int 0, .int 1, .ref (s.heap.size + 1 + 29), .ref (s.heap.size + 1 + 30)])), ((s.heap.size + 1 + 29), .inl (ca 4, 3, .inl (fun _ => 0))), ((s.heap.size + 1 + 30), .inl (ca 4, 3, .inl (fun _ => 0))), ((s.heap.size + 1 + 31), .inr (2, [.int 0, .int 0, .int 0, .int 1, .ref (s.heap.size + 1 + 32), .ref (s.heap.size + 1 + 33)])), ((s.heap.size + 1 + 32), .inl (ca 4, 3, .inl (fun _ => 0))), ((s.heap.size + 1 + 33), .inl (ca 4, 3, .inl (fun _ => 0))), ((s.heap.size + 1 + 34), .inr (2, [.int 0, .int 0, .int 0, .int 1, .ref (s.heap.size + 1 + 35), .ref (s.heap.size + 1 + 36)])), ((s.heap.size + 1 + 35), .inl (ca 4, 3, .inl (fun _ => 0))), ((s.heap.size + 1 + 36), .inl (ca 4, 3, .inl (fun _ => 0))), ((s.heap.size + 1 + 37), .inr (2, [.int 0, .int 0, .int 0, .int 1, .ref (s.heap.size + 1 + 38), .ref (s.heap.size + 1 + 39)])), ((s.heap.size + 1 + 38), .inl (ca 4, 3, .inl (fun _ => 0))), ((s.heap.size + 1 + 39), .inl (ca 4, 3, .inl (fun _ => 0))), ((s.heap.size + 1 + 40), .inr (2, [.int 0, .int 0, .int 0, .int 1, .ref (s.heap.size + 1 + 41), .ref (s.heap.size + 1 + 42)])), ((s.heap.size + 1 + 41), .inl (ca 4, 3, .inl (fun _ => 0))), ((s.heap.size + 1 + 42), .inl (ca 4, 3, .inl (fun _ => 0))), ((s.heap.size + 1 + 43), .inr (2, [.int 0, .int 0, .int 0, .int 1, .ref (s.heap.size + 1 + 44), .ref (s.heap.size + 1 + 45)])), ((s.heap.size + 1 + 44), .inl (ca 4, 3, .inl (fun _ => 0))), ((s.heap.size + 1 + 45), .inl (ca 4, 3, .inl (fun _ => 0))), ((s.heap.size + 1 + 46), .inr (2, [.int 0, .int 0, .int 0, .int 1, .ref (s.heap.size + 1 + 47), .ref (s.heap.size + 1 + 48)])), ((s.heap.size + 1 + 47), .inl (ca 4, 3, .inl (fun _ => 0))), ((s.heap.size + 1 + 48), .inl (ca 4, 3, .inl (fun _ => 0))), ((s.heap.size + 1 + 49), .inr (2, [.int 0, .int 0, .int 0, .int 1, .ref (s.heap.size + 1 + 50), .ref (s.heap.size + 1 + 51)])), ((s.heap.size + 1 + 50), .inl (ca 4, 3, .inl (fun _ => 0))), ((s.heap.size + 1 + 51), .inl (ca 4, 3, .inl (fun _ => 0))), ((s.heap.size + 1 + 52), .inl (ca 7, 2, .inr (.inr (.inr (.inr (va_up (va_up (fun _ => none) 0 (some (s.heap.size + 1 + 62))) 1 (some (s.heap.size + 1 + 65)))))))), ((s.heap.size + 1 + 53), .inr (3, [.ref (s.heap.size + 1 + 54), .ref (s.heap.size + 1 + 55), .ref (s.heap.size + 1 + 56), .ref (s.heap.size + 1 + 57), .int 0])), ((s.heap.size + 1 + 54), .inl (ca 4, 6, .inl (fun _ => 0))), ((s.heap.size + 1 + 55), .inl (ca 4, 3, .inl (fun _ => 0))), ((s.heap.size + 1 + 56), .inl (ca 4, 64, .inl (fun _ => 0))), ((s.heap.size + 1 + 57), .inl (ca 4, 64, .inl (fun _ => 0))), ((s.heap.size + 1 + 58), .inl (ca 4, 4, .inl (fun _ => 0))), ((s.heap.size + 1 + 59), .inl (ca 4, 4, .inl (fun _ => 0))), ((s.heap.size + 1 + 60), .inl (ca 4, 4, .inl (fun _ => 0))), ((s.heap.size + 1 + 61), .inl (ca 4, 7, .inl (fun _ => 0))), ((s.heap.size + 1 + 62), .inr (2, [.int 0, .int 0, .int 0, .int 1, .ref (s.heap.size + 1 + 63), .ref (s.heap.size + 1 + 64)])), ((s.heap.size + 1 + 63), .inl (ca 4, 3, .inl (fun _ => 0))), ((s.heap.size + 1 + 64), .inl (ca 4, 3, .inl (fun _ => 0))), ((s.heap.size + 1 + 65), .inr (2, [.int 0, .int 0, .int 0, .int 1, .ref (s.heap.size + 1 + 66), .ref (s.heap.size + 1 + 67)])), ((s.heap.size + 1 + 66), .inl (ca 4, 3, .inl (fun _ => 0))), ((s.heap.size + 1 + 67), .inl (ca 4, 3, .inl (fun _ => 0)))]) (w1 := [((s.heap.size + 69), .inr (6, [.int 10, .int 2, .int 1, .int 0, .ref ((s.heap.size + 69) + 1), .int 0, .ref ((s.heap.size + 69) + 1 + 1), .ref ((s.heap.size + 69) + 1 + 2), .ref ((s.heap.size + 69) + 1 + 3), .int 0, .ref ((s.heap.size + 69) + 1 + 4), .ref ((s.heap.size + 69) + 1 + 5), .int 0, .int 0, .ref ((s.heap.size + 69) + 1 + 6), .ref ((s.heap.size + 69) + 1 + 7), .long 0, .ref ((s.heap.size + 69) + 1 + 8), .int 0, .int 0, .int 0, .int 0, .int 0, .int 0, .int 0, .ref ((s.heap.size + 69) + 1 + 9), .int 0, .ref ((s.heap.size + 69) + 1 + 10), .ref ((s.heap.size + 69) + 1 + 11), .int 0, .ref ((s.heap.size + 69) + 1 + 12), .ref ((s.heap.size + 69) + 1 + 13), .ref ((s.heap.size + 69) + 1 + 14), .ref ((s.heap.size + 69) + 1 + 15), .ref ((s.heap.size + 69) + 1 + 16), .ref ((s.heap.size + 69) + 1 + 17), .ref ((s.heap.size + 69) + 1 + 18), .int 0, .ref ((s.heap.size + 69) + 1 + 19)])), (((s.heap.size + 69) + 1), .inl (ca 4, 12, .inl (fun _ => 0))), (((s.heap.size + 69) + 1 + 1), .inl (ca 4, 12, .inl (fun _ => 0))), (((s.heap.size + 69) + 1 + 2), .inl (ca 4, 26, .inl (upd (upd (upd (upd (upd (upd (fun _ => 0) 2 (-9)) 3 (-9)) 4 (-9)) 5 (-9)) 6 (-9)) 7 (-9)))), (((s.heap.size + 69) + 1 + 3), .inl (ca 4, 260, .inl (fun _ => 0))), (((s.heap.size + 69) + 1 + 4), .inl (ca 4, 52, .inl (fun _ => 0))), (((s.heap.size + 69) + 1 + 5), .inl (ca 5, 2, .inl (fun _ => 0))), (((s.heap.size + 69) + 1 + 6), .inl (ca 4, 4, .inl (fun _ => 0))), (((s.heap.size + 69) + 1 + 7), .inl (ca 4, 20, .inl (fun _ => 0))), (((s.heap.size + 69) + 1 + 8), .inl (ca 4, 200, .inl (fun _ => 0))), (((s.heap.size + 69) + 1 + 9), .inl (ca 4, 12, .inl (fun _ => 0))), (((s.heap.size + 69) + 1 + 10), .inl (ca 4, 12, .inl (fun _ => 0))), (((s.heap.size + 69) + 1 + 11), .inl (ca 4, 3, .inl (fun _ => 0))), (((s.heap.size + 69) + 1 + 12), .inl (ca 4, 6, .inl (fun _ => 0))), (((s.heap.size + 69) + 1 + 13), .inl (ca 4, 6, .inl (fun _ => 0))), (((s.heap.size + 69) + 1 + 14), .inl (ca 4, 6, .inl (fun _ => 0))), (((s.heap.size + 69) + 1 + 15), .inl (ca 4, 6, .inl (fun _ => 0))), (((s.heap.size + 69) + 1 + 16), .inl (ca 6, 7, .inr (.inl (fun _ => 0)))), (((s.heap.size + 69) + 1 + 17), .inl (ca 4, 5, .inl (fun _ => 0))), (((s.heap.size + 69) + 1 + 18), .inl (ca 4, 5, .inl (fun _ => 0))), (((s.heap.size + 69) + 1 + 19), .inl (ca 4, 4, .inl (fun _ => 0)))]) XA (kcX6_init l (G := (D, ca, fun _ => none, fun _ _ => 0, fun _ => False)) (h0 := s.heap.size + 69) (sz := s.heap.size + 69 + 1)) ⟨cdX6_init, mlL_12, imX6_init, iniX6⟩ rfl (by decide +kernel) ⟨Nat.le_of_ble_eq_true rfl, Nat.le_of_ble_eq_true rfl⟩ ha hA [69] [0, 1, 2, 3, 4, 5, 6, 7, 8, 9, 10, 11, 12, 13, 14, 15, 16, 17, 18, 19, 20, 21, 22, 23, 24, 25, 26, 27, 28, 29, 30, 31, 32, 33, 34, 35, 36, 37, 38, 39, 40, 41, 42, 43, 44, 45, 46, 47, 48, 49, 50, 51, 52, 53, 54, 55, 56, 57, 58, 59, 60, 61, 62, 63, 64, 65, 66, 67, 68] rfl rfl rfl rfl (by decide) (by decide) hl (Nat.le_of_ble_eq_true rfl) ⟨Nat.le_of_ble_eq_true rfl, Nat.le_of_ble_eq_true rfl⟩ dL_law_12 (fun H locs ha => ?_)
  refine lv_astore_n (lv' := [(2, .ref (s.heap.size + 69)), (1, .ref s.heap.size), (0, .ref b)]) hx hb dL_law_15 rfl hl (by decide) rfl (fun ls hl => ?_)
  refine lv_iconst (v := 0) hx hb dL_law_16 (by decide) ?_
  refine lv_istore_n (lv' := [(3, .int 0), (2, .ref (s.heap.size + 69)), (1, .ref s.heap.size), (0, .ref b)]) hx hb dL_law_17 rfl hl (by decide) rfl (fun ls hl => ?_)
  refine W.widen (k := 600000) (n := 7302250) (Nat.le_of_ble_eq_true rfl) (Nat.le_of_ble_eq_true rfl) ?_
  obtain ⟨hP, -, hS, -⟩ := ha
  have S0 : lwS p s m meth c b L xs D ca := ⟨hXG _ (gDC D ca _) (hK0 _ _ _), hXG _ (gDM D ca _) (hK0 _ _ _), hX, hbl, hL⟩
  exact lw_loop C0 S0 (L + 5) 0 0 (Nat.zero_le _) (by omega) nI_0.symm σC0 σM0 Rel_0 _ _ (gHC0 (hP.sub [0, 1, 2, 3, 4, 5, 6, 7, 8, 9, 10, 11, 12, 13, 14, 15, 16, 17, 18, 19, 20, 21, 22, 23, 24, 25, 26, 27, 28, 29, 30, 31, 32, 33, 34, 35, 36, 37, 38, 39, 40, 41, 42, 43, 44, 45, 46, 47, 48, 49, 50, 51, 52, 53, 54, 55, 56, 57, 58, 59, 60, 61, 62, 63, 64, 65, 66, 67, 68] rfl)) (gHM0 (hP.sub [69, 70, 71, 72, 73, 74, 75, 76, 77, 78, 79, 80, 81, 82, 83, 84, 85, 86, 87, 88, 89] rfl)) hS ls (lv_sub hl [3, 2, 1, 0] rfl)
set_option maxHeartbeats 4000000 in
theorem lw_walk (l : Launch) (b : Addr) (xs : List Int32) : MetFree l x (headSpec (Jvm.Cond.code x code maxLocals ret :: tables_1) room_1) (lw_P b xs) (fun _ _ _ _ _ => True) lw_Q := by
  refine MetFree.of_bodyS (code := code) (maxLocals := maxLocals) (ret := ret) (by decide) ?_ ?_
  · intro args s m h hn
    obtain ⟨meth, c, h1, h2, h3, h4, h5, h6, -, -⟩ := Cond.code_spec hn (atoms_spec (ws := Jvm.Cond.code x code maxLocals ret :: tables_1) h _ List.mem_cons_self)
    exact ⟨meth, c, h1, h2, h3, h4, h5, h6⟩
  · intro p e s m args below meth c s₁ B hml0 hP _
    obtain ⟨rfl, hx, hbd, hgv⟩ := hP
    obtain ⟨scr, harrAt, hlist, hof, hsmall⟩ := hx
    obtain ⟨hcb, hkn, -, -⟩ := State.arrayAt?_spec harrAt
    have hown : s.vm.findClass R_law = some m.cls := findClass_of_methodNamed B.named
    have hts0 : ∀ c ∈ (Jvm.Cond.code x code maxLocals ret :: tables_1), c.before #[Value.ref b] s = true := atoms_spec (ws := Jvm.Cond.code x code maxLocals ret :: tables_1) B.pre
    have hts : ∀ w ∈ lw_tbl, w.before #[Value.ref b] s = true := k2_hts_sels lw_privs (fun w hw => hts0 w (List.mem_cons_of_mem _ hw)) lw_privs_ok
    have hml : c.maxLocals = 4 := B.maxLocals_eq (hts0 _ List.mem_cons_self)
    have X₀ : Stand p l e room_1 s m #[Value.ref b] below meth c s₁ [] 0 0 := Stand.of_body B
    have hh0 : s₁.heap = s.heap := by rw [B.state]; rfl
    have hsz : scr.slots.size = xs.length := by rw [← Array.length_toList, hlist, List.length_map]
    have hval : ∀ j : Nat, j < xs.length → scr.slots[j]? = some (.int (xs.getD j 0)) := fun j hj => by
      rw [← Array.getElem?_toList, hlist]
      simp [hj]
    have hbl : b < s.heap.size := (Array.getElem?_eq_some_iff.mp hcb).1
    have hX : va_X b xs.length (fun j => xs.getD j 0) s s.heap := ⟨scr, hcb, hof, hkn, hsz, hval⟩
    have K : W p l e room_1 s m #[Value.ref b] below meth c s₁.heap [] 0 0 (lw_Z below #[Value.ref b] s) (entryFrame m ([Value.ref b] : List Value).toArray 4) := by
      rw [hh0]
      exact whole_start l hbd ⟨B.exec, B.bytes, B.returns, hml, hown, hts, hX, hbl, B.notSynchronized, hgv, hts0 _ List.mem_cons_self⟩
    obtain ⟨t, a1, o, b1, b2, b3⟩ := K s₁ rfl X₀
    exact ⟨t, o, a1, b1, b2, b3⟩
theorem lw_pre_spec {args : Array Value} {s : State} (h : (Jvm.Cond.and given_1 narrow_1).before args s = true) (hr : rest_1_c.before args s = true) : ∃ (b : Addr) (xs : List Int32), lw_P b xs args s := by
  have hs := flat_of_before _ h
  have hq := flat_of_before _ hr
  have hc : (Cond.count 1).before args s = true := hs _ (by decide +kernel)
  have harr : (Cond.arrayOf (.arg 0) .int).before args s = true := hs _ (by decide +kernel)
  have hle : (Cond.le (.length (.arg 0)) (.int 256)).before args s = true := hs _ (by decide +kernel)
  have hlen : (Cond.isInt (.length (.arg 0))).before args s = true := hq _ (by decide +kernel)
  have hall : (Cond.all (.arg 0) (.isInt (.elem (.arg 0) (.index 0)))).before args s = true := hq _ (by decide +kernel)
  obtain ⟨b, xs, hb, hx⟩ := State.ints_of_pre rfl harr hlen hall
  have hsm : xs.length < 2 ^ 31 := hx.choose_spec.2.2.2
  have hev : (Term.length (.arg 0)).eval args s none [] s = some (.int xs.length.toInt32) := hx.length_eval hb
  have hv := Cond.le_ints hev (show (Term.int 256).eval args s none [] s = some (.int 256) from rfl)
  have hd : xs.length.toInt32 ≤ 256 := by
    simpa [Cond.before, Cond.holds, hv] using hle
  have hN : xs.length ≤ 256 := (Int32.ofNat_le_ofNat hsm (by decide)).mp (show Int32.ofNat xs.length ≤ Int32.ofNat 256 from hd)
  exact ⟨b, xs, Cond.one_arg hc (show args[0]? = some (.ref b) from hb), hx, hN, h⟩
theorem lw_comes (l : Launch) : Comes l x (Jvm.Cond.code x code maxLocals ret :: tables_1) room_1 (fun tb e args s => Calls_1 tb e args s ∧ rest_1 tb e args s ∧ Pre_1 tb e args s)
    (fun _ _ args s o t => lw_Q args s o t) := by
  intro p e ha hc hk s m args below hf hfit hheap happ hpre
  obtain ⟨b, xs, hP⟩ := lw_pre_spec hpre.2.2 hpre.2.1
  obtain ⟨k, o, h1, h2, h3, hQ⟩ := lw_walk l b xs p e ha hc hk s m args below hf ((Spec.applies_iff_loose hf).mp happ).1 hP trivial
  exact ⟨k, o, h1, h2, h3, hQ⟩
theorem lw_frame {s t : State} {o : Outcome} {args : Array Value} (h : Framed s o t [] 600000 7302250) :
    Framed s o t (fieldLocs frame_1_writes args s ++ arrayLocs frame_1_arrays args s ++ staticLocs frame_1_statics s) 600000 7302250 := h
theorem lw_limb (L : Cond) (hL : ∀ (args : Array Value) (s t : State), L.after args s (.returned (some (.int 1))) t = true) :
    ArmFor flags0 classFile x code maxLocals ret World_1 tables_1 room_1 Calls_1 rest_1 Pre_1
      (fun tb e a s o t => postC L tb e a s o t ∧ Framed s o t (fieldLocs frame_1_writes a s ++ arrayLocs frame_1_arrays a s ++ staticLocs frame_1_statics s) 600000 7302250) := by
  intro l _ _ _ p e ha hc hk s m args below hf hfit hheap happ hpre
  obtain ⟨k, o, h1, h2, h3, rfl, hF⟩ := lw_comes l p e ha hc hk s m args below hf hfit hheap happ hpre
  exact ⟨k, _, h1, h2, h3, hL args s _, lw_frame hF⟩
theorem i_vc : Claimed_1_1 ∧ Claimed_1_2 := ⟨lw_limb limb_1_1 (fun args s t => by simp [limb_1_1, Cond.after, Cond.holds, Cond.value]), lw_limb limb_1_2 (fun args s t => Cond.after_iff.mpr (by
  first | (rw [show limb_1_2 = Cond.eq .result (.int 1) from rfl, Cond.eq_ints (x := 1) (y := 1) rfl rfl]; simp; done) | (simp [limb_1_2, Cond.value, Term.eval]; done)))⟩
