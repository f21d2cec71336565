/-! list worlds for the constructors: explicit cells at exact addresses -/
def ax (G : gG) (A : Nat → Prop) (H0 : Heap) (ws : va_W) (sz : Nat) (H : Heap) (locs : List Loc) : Prop := va_P G.1 vwCl ws H ∧ va_D A ws ∧ va_S A H0 H locs ∧ H.size = sz
def lP (G : gG) (av : List Value) (ws : va_W) (sz : Nat) : Array Value → State → Prop := fun v U => v = av.toArray ∧ gK G U ∧ va_AO RX2 U ∧ U.heap.size = sz ∧ va_P G.1 vwCl ws U.heap ∧ va_D (fun _ => True) ws
def lQ (G : gG) (ws : va_W) (sz mc : Nat) (ws' : va_W) : Array Value → State → Outcome → State → Prop := fun _ st oc t => oc = .returned none ∧ t.heap.size = sz + mc ∧ va_P G.1 vwCl ws' t.heap ∧ va_D (va_A ws sz) ws' ∧ va_F (va_A ws sz) st t
abbrev rmc (fr lo mc ms : Nat) : Room := { frames := fr, cells := mc, slots := ms, locals := lo }
def CL (l : Launch) (y : MethodName) (cc : ByteArray) (n : Nat) (fr lo mc ms : Nat) (G : gG) (av : List Value) (ws : va_W) (sz : Nat) (ws' : va_W) : Prop :=
  Met l y (wm y cc n none) (rmc fr lo mc ms) (lP G av ws sz) (lQ G ws sz mc ws') mc ms (va_A ws sz)
theorem lP.blind (G : gG) (av : List Value) (ws : va_W) (sz : Nat) : FrameBlind (lP G av ws sz) := fun _ U _ _ q => ⟨q.1, gK.call q.2.1, va_AO.moved (u := U) (Vm.Alike.refl U.vm) q.2.2.1, q.2.2.2⟩
/-- what holds all through such a body -/
def aX (p : Program) (s : State) (m : MethodId) (args : Array Value) (meth : Method) (c : Code) (y : MethodName) (cc : ByteArray) (n : Nat) (ry : Option FieldType) (own : String) (G : gG) : Prop :=
  p.tables.exec = Jvm.exec ∧ c.code = cc ∧ c.maxLocals = n ∧ s.vm.findClass own = some m.cls ∧ (∀ w ∈ wm y cc n ry, w.before args s = true) ∧ meth.locks = false ∧ va_AO RX2 s ∧ gK G s
section AX
variable {p : Program} {l : Launch} {e : Env} {R : Room} {s : State} {m : MethodId} {args : Array Value} {below : List Frame} {meth : Method} {c : Code} {H : Heap} {locs : List Loc} {cells slots : Nat} {Q : State → Prop}
variable {y : MethodName} {cc : ByteArray} {nL : Nat} {ry : Option FieldType} {own : String} {G : gG} {pc : Nat} {ls : Array Slot} {rest : List Value} {H0 : Heap} {A : Nat → Prop} {ws : va_W} {sz : Nat}
theorem aX.hx (X : aX p s m args meth c y cc nL ry own G) : p.tables.exec = Jvm.exec := X.1
theorem aX.hb (X : aX p s m args meth c y cc nL ry own G) : c.code = cc := X.2.1
theorem aX.hml (X : aX p s m args meth c y cc nL ry own G) : c.maxLocals = nL := X.2.2.1
theorem aX.hown (X : aX p s m args meth c y cc nL ry own G) : s.vm.findClass own = some m.cls := X.2.2.2.1
theorem aX.hts (X : aX p s m args meth c y cc nL ry own G) : ∀ w ∈ wm y cc nL ry, w.before args s = true := X.2.2.2.2.1
theorem aX.w (X : aX p s m args meth c y cc nL ry own G) {w : Cond} (h : w ∈ LW) : w.before args s = true := X.hts w (wm_in h)
theorem aX.hlk (X : aX p s m args meth c y cc nL ry own G) : meth.locks = false := X.2.2.2.2.2.1
theorem aX.hao (X : aX p s m args meth c y cc nL ry own G) : va_AO RX2 s := X.2.2.2.2.2.2.1
theorem aX.hK (X : aX p s m args meth c y cc nL ry own G) : gK G s := X.2.2.2.2.2.2.2
theorem ax_get (X : aX p s m args meth c y cc nL ry own G) (h : ax G A H0 ws sz H locs) {C : String} {T : u_T} {N ci k idx a : Nat} (hin : ∀ w ∈ u_ws C T N, w ∈ LW) (hc : vwCl[ci]? = some (C, T, N)) (hk : k < N) (hlk : Cond.fieldLink own idx (T k).1 (T k).2.1 (T k).2.2.1 ∈ LW) (q0 : Nat) {fs : List Value} (he : ws[q0]? = some (a, .inr (ci, fs))) {v : Value} (hv : fs[k]? = some v)
    (hdg : decode cc pc = .ok (.getfield idx, 3)) (kk : W p l e R s m args below meth c H locs cells slots Q (F0 m (pc + 3) ls (v :: rest))) : W p l e R s m args below meth c H locs cells slots Q (F0 m pc ls (.ref a :: rest)) :=
  va_get X.hx X.hb X.hts (fun w q => wm_in (hin w q)) X.hown X.hK.1 h.1 q0 he hc k hk (X.w hlk) (fun _ h9 => h9) hv hdg kk
theorem ax_putG (h : ax G A H0 ws sz H locs) {ci a k i : Nat} {q0 : Nat} {fs : List Value} (he : ws[q0]? = some (a, .inr (ci, fs))) {v : Value} {C : String} {T : u_T} {N : Nat} (hc : vwCl[ci]? = some (C, T, N)) (hl : k < fs.length) {H' : Heap} {cell : Cell} (q2 : cell.cls = G.1.1 ci) (q3 : cell.vm = .none) (q4 : ∀ k, k < N → cell.slots[G.1.2 ci k]? = some (vp_V fs k)) (hap : ∀ x y, x < N → y < N → x ≠ y → G.1.2 ci x ≠ G.1.2 ci y) (hk : k < N) (e1 : H'[a]? = some (cell.setSlot (G.1.2 ci k) v)) (e2 : H'.size = H.size) (e3 : ∀ q, q ≠ a → H'[q]? = H[q]?) : ax G A H0 (ws.set q0 (a, .inr (ci, fs.set k v))) sz H' (locs ++ [⟨a, i⟩]) :=
  ⟨h.1.set h.2.1 he ⟨_, hc, t_OB.to (V := updV (vp_V fs) k v) ⟨_, e1, q2, q3, t_set q4 hap hk v⟩ (fun j _ => vp_updV_set hl v j)⟩ e3, h.2.1.set he, h.2.2.1.put e2 e3 (h.2.1.2 q0 _ he), e2.trans h.2.2.2⟩
theorem ax_put (X : aX p s m args meth c y cc nL ry own G) (h : ax G A H0 ws sz H locs) {C : String} {T : u_T} {N ci k idx a : Nat} (hin : ∀ w ∈ u_ws C T N, w ∈ LW) (hc : vwCl[ci]? = some (C, T, N)) (ty0 : Nat → FieldType) (hty : ∀ k, k < N → parseFieldDescriptor (T k).2.2.1 = some (ty0 k)) (hnm : ∀ a, a < N → ∀ b, b < N → a ≠ b → (T a).2.1 ≠ (T b).2.1) (hk : k < N) (hlk : Cond.fieldLink own idx (T k).1 (T k).2.1 (T k).2.2.1 ∈ LW) (hfin : (T k).2.2.2 = false) {v : Value} (hn : narrow (ty0 k) v = v) (hfit : fits (ty0 k) v = true) (q0 : Nat) {fs : List Value} (he : ws[q0]? = some (a, .inr (ci, fs))) (hl : k < fs.length)
    (hdg : decode cc pc = .ok (.putfield idx, 3)) (kk : ∀ (H1 : Heap) (locs1 : List Loc), ax G A H0 (ws.set q0 (a, .inr (ci, fs.set k v))) sz H1 locs1 → W p l e R s m args below meth c H1 locs1 cells slots Q (F0 m (pc + 3) ls rest)) : W p l e R s m args below meth c H locs cells slots Q (F0 m pc ls (v :: .ref a :: rest)) := by
  have hts := X.hts
  have hin2 : ∀ w ∈ u_ws C T N, w ∈ wm y cc nL ry := fun w h => wm_in (hin w h)
  have hap := va_apart (own := own) hts hin2 ty0 hty hnm X.hK.1 hc
  obtain ⟨r, h1, cell, q1, q2, q3, q4⟩ := h.1 q0 _ he
  have hr : r = (C, T, N) := Option.some.inj (h1.symm.trans hc)
  subst hr
  obtain ⟨hS, hfc, kC, hkC, hkind⟩ := X.hK.1.1 ci _ hc
  obtain ⟨cf, kf, fi, f, hi, hsl⟩ := hS k hk
  have hlay := hts _ (hin2 _ (u_in_lay hk))
  unfold u_lay at hlay
  rw [if_neg (by rw [hfin]; decide)] at hlay
  have hst := (u_facts hfc hkC (u_lays hts hin2 hk) hi).1
  have h6 := u_store hfc hkC hkind hlay hi (hty k hk) hn hfit
  refine W.putK X.hx X.hb (f := f) ⟨X.hown, X.w hlk, ⟨_, _, _, hi⟩, hst⟩ (by rw [q2]; exact h6) q1 q3 (by rw [hsl]; exact k2_hasslot (q4 k hk)) rfl rfl hdg fun H' e1 e2 e3 => ?_
  rw [hsl] at e1 ⊢
  exact kk H' _ (ax_putG h he hc hl q2 q3 q4 hap hk e1 e2 e3)
theorem ax_putF (X : aX p s m args meth c y cc nL ry own G) (hnm0 : meth.name = y.name) (h : ax G A H0 ws sz H locs) {C : String} {T : u_T} {N ci k idx a : Nat} (hin : ∀ w ∈ u_ws C T N, w ∈ LW) (hc : vwCl[ci]? = some (C, T, N)) (ty0 : Nat → FieldType) (hty : ∀ k, k < N → parseFieldDescriptor (T k).2.2.1 = some (ty0 k)) (hnm : ∀ a, a < N → ∀ b, b < N → a ≠ b → (T a).2.1 ≠ (T b).2.1) (hk : k < N) (hlk : Cond.fieldLink own idx (T k).1 (T k).2.1 (T k).2.2.1 ∈ LW) (hfin : (T k).2.2.2 = true) (hdecl : (T k).1 = own) (hyi : y.name = "<init>") {v : Value} (hn : narrow (ty0 k) v = v) (hfit : fits (ty0 k) v = true) (q0 : Nat) {fs : List Value} (he : ws[q0]? = some (a, .inr (ci, fs))) (hl : k < fs.length)
    (hdg : decode cc pc = .ok (.putfield idx, 3)) (kk : ∀ (H1 : Heap) (locs1 : List Loc), ax G A H0 (ws.set q0 (a, .inr (ci, fs.set k v))) sz H1 locs1 → W p l e R s m args below meth c H1 locs1 cells slots Q (F0 m (pc + 3) ls rest)) : W p l e R s m args below meth c H locs cells slots Q (F0 m pc ls (v :: .ref a :: rest)) := by
  have hts := X.hts
  have hin2 : ∀ w ∈ u_ws C T N, w ∈ wm y cc nL ry := fun w h => wm_in (hin w h)
  have hap := va_apart (own := own) hts hin2 ty0 hty hnm X.hK.1 hc
  obtain ⟨r, h1, cell, q1, q2, q3, q4⟩ := h.1 q0 _ he
  have hr : r = (C, T, N) := Option.some.inj (h1.symm.trans hc)
  subst hr
  obtain ⟨hS, hfc, kC, hkC, hkind⟩ := X.hK.1.1 ci _ hc
  obtain ⟨cf, kf, fi, f, hi, hsl⟩ := hS k hk
  have hlay := hts _ (hin2 _ (u_in_lay hk))
  unfold u_lay at hlay
  rw [if_pos hfin] at hlay
  have hst := (u_facts hfc hkC (u_lays hts hin2 hk) hi).1
  have hown := X.hown
  have hcf : m.cls = cf := by
    obtain ⟨_, _, c', _, _, _, -, -, hf', -, -, -, hown2, -⟩ := Cond.laysFinal_spec hlay
    have e1 : c' = cf := by have := hi.symm.trans hf'; simp at this; exact this.1.symm
    rw [hdecl] at hown2
    rw [← e1]; exact Option.some.inj (hown.symm.trans hown2)
  have h6 := u_fits hfc hkC hkind (Or.inr hlay) hi (hty k hk) hn hfit
  refine W.putFinK X.hx X.hb hown (X.w hlk) hi hst hcf (hnm0.trans hyi) (by rw [q2]; exact h6) q1 q3 (by rw [hsl]; exact k2_hasslot (q4 k hk)) rfl rfl hdg fun H' e1 e2 e3 => ?_
  rw [hsl] at e1 ⊢
  exact kk H' _ (ax_putG h he hc hl q2 q3 q4 hap hk e1 e2 e3)
theorem ax_push (h : ax G A H0 ws sz H locs) (hA : ∀ q, H0.size ≤ q → A q) {H1 : Heap} {x : va_E} (z1 : H1.size = sz + 1) (o1 : ∀ q, q < sz → H1[q]? = H[q]?) (hx : va_at G.1 vwCl (sz, x) H1) : ax G A H0 (ws ++ [(sz, x)]) (sz + 1) H1 locs := by
  obtain ⟨hP, hD, hS, hz⟩ := h
  have hk : ∀ (k : Nat) (q : Nat × va_E), ws[k]? = some q → H1[q.1]? = H[q.1]? := fun k q hq => o1 q.1 (by rw [← hz]; exact (hP k q hq).lt)
  refine ⟨(hP.kept hk).app (fun k q hq => ?_), hD.push hP hz.symm (hA _ (by rw [← hz]; exact hS.1)), ⟨by have := hS.1; omega, fun q h1 h2 => (o1 q (by have := hS.1; omega)).trans (hS.2.1 q h1 h2), hS.2.2⟩, z1⟩
  have hz1 : k < 1 := (List.getElem?_eq_some_iff.mp hq).1
  rw [show k = 0 by omega] at hq
  cases hq
  exact hx
theorem ax_newA (X : aX p s m args meth c y cc nL ry own G) (h : ax G A H0 ws sz H locs) (hA : ∀ q, H0.size ≤ q → A q) {atype : ArrayType} {ty : FieldType} (hty : newarray.typeOf atype = ty) (harr : Cond.arrayClass ty ∈ LW) {t : Nat} (hca : s.vm.findClass ("[" ++ ty.toString) = some (gca G t)) {n : Int32} {N' : Nat} {a0 : vp_A} (ha : ∀ cA : ClassId, vp_cell cA a0 = arrV cA N' (fun _ => defaultValue ty)) (hn : ¬ n < 0) (hN : n.toNatClampNeg = N') (hbytes : N' * componentBytes ty ≤ 536870912) (hcells : cells + 1 ≤ R.cells) (hslots : slots + N' ≤ R.slots) (hdg : decode cc pc = .ok (.newarray atype, 2))
    (kk : ∀ (H1 : Heap), ax G A H0 (ws ++ [(sz, .inl (gca G t, a0))]) (sz + 1) H1 locs → W p l e R s m args below meth c H1 locs (cells + 1) (slots + N') Q (F0 m (pc + 2) ls (.ref sz :: rest))) : W p l e R s m args below meth c H locs cells slots Q (F0 m pc ls (.int n :: rest)) := by
  subst hty
  refine va_newaK X.hx X.hb (X.w harr) rfl hdg rfl hn hN hbytes hcells hslots h.2.2.2 fun H1 cA e1 z1 o1 hAr hNm => ?_
  have hcc : cA = gca G t := Option.some.inj (hNm.symm.trans hca)
  subst hcc
  refine kk H1 (ax_push h hA z1 o1 ?_)
  show H1[sz]? = some (vp_cell _ _)
  rw [ha]
  exact e1
theorem ax_newI (X : aX p s m args meth c y cc nL ry own G) (h : ax G A H0 ws sz H locs) (hA : ∀ q, H0.size ≤ q → A q) {n : Int32} {N' : Nat} (hn : ¬ n < 0) (hN : n.toNatClampNeg = N') (hbytes : N' * componentBytes .int ≤ 536870912) (hcells : cells + 1 ≤ R.cells) (hslots : slots + N' ≤ R.slots) (hdg : decode cc pc = .ok (.newarray .int, 2))
    (kk : ∀ (H1 : Heap), ax G A H0 (ws ++ [(sz, .inl (gca G 4, N', .inl (fun _ => 0)))]) (sz + 1) H1 locs → W p l e R s m args below meth c H1 locs (cells + 1) (slots + N') Q (F0 m (pc + 2) ls (.ref sz :: rest))) : W p l e R s m args below meth c H locs cells slots Q (F0 m pc ls (.int n :: rest)) :=
  ax_newA X h hA (ty := .int) rfl acI (X.hK.1.2 0 (gca G 4, .int) rfl).2 (fun _ => rfl) hn hN hbytes hcells hslots hdg kk
theorem ax_newZ (X : aX p s m args meth c y cc nL ry own G) (h : ax G A H0 ws sz H locs) (hA : ∀ q, H0.size ≤ q → A q) {n : Int32} {N' : Nat} (hn : ¬ n < 0) (hN : n.toNatClampNeg = N') (hbytes : N' * componentBytes .boolean ≤ 536870912) (hcells : cells + 1 ≤ R.cells) (hslots : slots + N' ≤ R.slots) (hdg : decode cc pc = .ok (.newarray .boolean, 2))
    (kk : ∀ (H1 : Heap), ax G A H0 (ws ++ [(sz, .inl (gca G 5, N', .inl (fun _ => 0)))]) (sz + 1) H1 locs → W p l e R s m args below meth c H1 locs (cells + 1) (slots + N') Q (F0 m (pc + 2) ls (.ref sz :: rest))) : W p l e R s m args below meth c H locs cells slots Q (F0 m pc ls (.int n :: rest)) :=
  ax_newA X h hA (ty := .boolean) rfl acZ (X.hK.1.2 1 (gca G 5, .boolean) rfl).2 (fun _ => rfl) hn hN hbytes hcells hslots hdg kk
theorem ax_newJ (X : aX p s m args meth c y cc nL ry own G) (h : ax G A H0 ws sz H locs) (hA : ∀ q, H0.size ≤ q → A q) {n : Int32} {N' : Nat} (hn : ¬ n < 0) (hN : n.toNatClampNeg = N') (hbytes : N' * componentBytes .long ≤ 536870912) (hcells : cells + 1 ≤ R.cells) (hslots : slots + N' ≤ R.slots) (hdg : decode cc pc = .ok (.newarray .long, 2))
    (kk : ∀ (H1 : Heap), ax G A H0 (ws ++ [(sz, .inl (gca G 6, N', .inr (.inl (fun _ => 0))))]) (sz + 1) H1 locs → W p l e R s m args below meth c H1 locs (cells + 1) (slots + N') Q (F0 m (pc + 2) ls (.ref sz :: rest))) : W p l e R s m args below meth c H locs cells slots Q (F0 m pc ls (.int n :: rest)) :=
  ax_newA X h hA (ty := .long) rfl acJ (X.hK.1.2 2 (gca G 6, .long) rfl).2 (fun _ => rfl) hn hN hbytes hcells hslots hdg kk
theorem ax_newq (X : aX p s m args meth c y cc nL ry own G) (h : ax G A H0 ws sz H locs) (hA : ∀ q, H0.size ≤ q → A q) {idx : Nat} (hcl : Cond.classLink own idx RX2 ∈ LW) {n : Int32} {N' : Nat} (hn : ¬ n < 0) (hN : n.toNatClampNeg = N') (hbytes : N' * 4 ≤ 536870912) (hcells : cells + 1 ≤ R.cells) (hslots : slots + N' ≤ R.slots) (hdg : decode cc pc = .ok (.anewarray idx, 3))
    (kk : ∀ (H1 : Heap), ax G A H0 (ws ++ [(sz, .inl (gca G 7, N', .inr (.inr (.inr (.inr (fun _ => none))))))]) (sz + 1) H1 locs → W p l e R s m args below meth c H1 locs (cells + 1) (slots + N') Q (F0 m (pc + 3) ls (.ref sz :: rest))) : W p l e R s m args below meth c H locs cells slots Q (F0 m pc ls (.int n :: rest)) := by
  subst hN
  obtain ⟨-, -, -, -, -, hra⟩ := (X.hK.1.2 3 (gca G 7, .object RX2) rfl).2
  obtain ⟨hP, hD, hS, hz⟩ := id h
  refine W.anew X.hx X.hb X.hown (X.w hcl) (va_AO.use X.hao) rfl hdg rfl hn hbytes hcells hslots fun cA kA comp f1 f2 f3 f4 => ?_
  have hcc : cA = gca G 7 := Option.some.inj (f1.symm.trans hra)
  subst hcc
  generalize hH1 : H.push ({ cls := gca G 7, slots := Array.replicate n.toNatClampNeg .null, vm := .none } : Cell) = H1
  subst hz
  refine kk H1 (ax_push h hA (by rw [← hH1, Array.size_push]) (fun q hq => by rw [← hH1, Array.getElem?_push, if_neg (Nat.ne_of_lt hq)]) ?_)
  show H1[H.size]? = some (vp_cell _ _)
  rw [vp_cell_q, ← hH1, Array.getElem?_push_size]
  show _ = some (arrV _ _ (fun _ => .null))
  rw [← arrV_new]
theorem ax_new (X : aX p s m args meth c y cc nL ry own G) (h : ax G A H0 ws sz H locs) (hA : ∀ q, H0.size ≤ q → A q) {C : String} {T : u_T} {N ci idx : Nat} (hin : ∀ w ∈ u_ws C T N, w ∈ LW) (hc : vwCl[ci]? = some (C, T, N)) (ty : Nat → FieldType) (hty : ∀ k, k < N → parseFieldDescriptor (T k).2.2.1 = some (ty k)) (hcl : Cond.classLink own idx C ∈ LW) (hinst : Cond.instantiable C N ∈ LW) (hini : Cond.initialized C ∈ LW) {fs : List Value} (hfs : ∀ j, j < N → defaultValue (ty j) = vp_V fs j) (hcells : cells + 1 ≤ R.cells) (hslots : slots + N ≤ R.slots) (hdg : decode cc pc = .ok (.new idx, 3))
    (kk : ∀ (H1 : Heap), ax G A H0 (ws ++ [(sz, .inr (ci, fs))]) (sz + 1) H1 locs → W p l e R s m args below meth c H1 locs (cells + 1) (slots + N) Q (F0 m (pc + 3) ls (.ref sz :: rest))) : W p l e R s m args below meth c H locs cells slots Q (F0 m pc ls rest) := by
  have hKn := X.hK.1.1 ci _ hc
  refine W.newcK X.hx X.hb X.hown (X.w hcl) (X.w hinst) (X.w hini) rfl hdg hcells hslots hKn.2.1 h.2.2.2 fun H1 kC hkC e1 z1 o1 => ?_
  exact kk H1 (ax_push h hA z1 o1 ⟨_, hc, (u_born ty X.hts (fun w h => wm_in (hin w h)) hKn hkC e1 hty).to hfs⟩)
theorem ax_ast (X : aX p s m args meth c y cc nL ry own G) (h : ax G A H0 ws sz H locs) (q0 : Nat) {a n : Nat} {f g : Nat → Int32} (ha : ws[q0]? = some (a, .inl (gca G 4, n, .inl f))) {i x : Int32} (hin : vp_in i n) (hg : upd f i.toNatClampNeg x = g) (hdg : decode cc pc = .ok (.iastore, 1))
    (kk : ∀ (H1 : Heap) (locs1 : List Loc), ax G A H0 (ws.set q0 (a, .inl (gca G 4, n, .inl g))) sz H1 locs1 → W p l e R s m args below meth c H1 locs1 cells slots Q (F0 m (pc + 1) ls rest)) : W p l e R s m args below meth c H locs cells slots Q (F0 m pc ls (.int x :: .int i :: .ref a :: rest)) := by
  subst hg
  obtain ⟨hP, hD, hS, hz⟩ := h
  refine W.iast X.hx X.hb (hP q0 _ ha) ((X.hK.1.2 0 (gca G 4, .int) rfl).1 n (fun j => .int (f j))) (fun q => by cases q) (by show ¬ (i < 0 ∨ (arrV _ _ _).slots.size ≤ _); rw [arrV_size]; exact hin) rfl rfl hdg fun H1 e z oq => ?_
  refine kk H1 _ ⟨hP.set hD ha ?_ oq, hD.set ha, hS.put z oq (hD.2 q0 _ ha), z.trans hz⟩
  show H1[a]? = some (vp_cell _ _)
  rw [e]
  rw [vp_cell_i, vp_cell_i, arrV_store]
  congr 2
  funext q
  by_cases hq : q = i.toNatClampNeg
  · subst hq
    simp [updV, upd]
  · simp [updV, upd, hq]
theorem ax_astq (X : aX p s m args meth c y cc nL ry own G) (h : ax G A H0 ws sz H locs) (q0 qk : Nat) {a n v : Nat} {vs : List Value} {f g : Nat → Option Nat} (ha : ws[q0]? = some (a, .inl (gca G 7, n, .inr (.inr (.inr (.inr f)))))) (hv : ws[qk]? = some (v, .inr (2, vs))) {i : Int32} (hin : vp_in i n) (hg : va_up f i.toNatClampNeg (some v) = g) (hdg : decode cc pc = .ok (.aastore, 1))
    (kk : ∀ (H1 : Heap) (locs1 : List Loc), ax G A H0 (ws.set q0 (a, .inl (gca G 7, n, .inr (.inr (.inr (.inr g)))))) sz H1 locs1 → W p l e R s m args below meth c H1 locs1 cells slots Q (F0 m (pc + 1) ls rest)) : W p l e R s m args below meth c H locs cells slots Q (F0 m pc ls (.ref v :: .int i :: .ref a :: rest)) := by
  subst hg
  obtain ⟨hP, hD, hS, hz⟩ := h
  have hlt : i.toNatClampNeg < n := Nat.not_le.mp fun q => hin (Or.inr q)
  have h0 : ¬ i < 0 := fun q => hin (Or.inl q)
  obtain ⟨r', hr', cellV, g1, g2, g3, -⟩ := hP qk _ hv
  have hcls := (X.hK.1.1 2 (RX2, TX2, 6) rfl).2
  obtain ⟨kA, comp, k1, k2, k3, -⟩ := (X.hK.1.2 3 (gca G 7, .object RX2) rfl).2
  have hcomp : comp = G.1.1 2 := Option.some.inj (k3.symm.trans hcls.1)
  subst hcomp
  obtain ⟨kC, hkC, -⟩ := hcls.2
  refine W.aast X.hx X.hb (hP q0 _ ha) (fun q h => by cases h) (fun h => by cases h) k1 k2 rfl hkC ⟨h0, by show _ < (arrV _ _ _).slots.size; rw [arrV_size]; exact hlt⟩ g1 (fun q h => by rw [g3] at h; cases h) (by rw [g2]; exact hkC) (by rw [g2]; exact va_assign hcls) rfl rfl hdg fun H1 e z oq => ?_
  refine kk H1 _ ⟨hP.set hD ha ?_ oq, hD.set ha, hS.put z oq (hD.2 q0 _ ha), z.trans hz⟩
  show H1[a]? = some (vp_cell _ _)
  rw [e]
  rw [vp_cell_q, vp_cell_q, arrV_store]
  congr 2
  funext q
  by_cases hq : q = i.toNatClampNeg
  · subst hq
    simp [updV, va_up, va_rf]
  · simp [updV, va_up, hq]
theorem ax_alen (X : aX p s m args meth c y cc nL ry own G) (h : ax G A H0 ws sz H locs) (q0 : Nat) {a n : Nat} {f : Nat → Int32} (ha : ws[q0]? = some (a, .inl (gca G 4, n, .inl f))) {v : Int32} (hv : Int32.ofNat n = v) (hdg : decode cc pc = .ok (.arraylength, 1))
    (kk : W p l e R s m args below meth c H locs cells slots Q (F0 m (pc + 1) ls (.int v :: rest))) : W p l e R s m args below meth c H locs cells slots Q (F0 m pc ls (.ref a :: rest)) :=
  va_alen X.hx X.hb X.hK.1 h.1 q0 0 ha (ty := .int) rfl hv hdg kk
/-- behind a call -/
theorem ax_ret {wc wr w1 : va_W} {mc ms : Nat} {a : Array Value} {st0 : List Value} (hr : va_Run p l e R s m args below meth c H locs cells slots mc ms (F0 m pc ls st0) rest (lQ G wc sz mc w1 a) (va_A wc sz)) (h : ax G A H0 ws sz H locs) (hA : ∀ q, H0.size ≤ q → A q) (isC isR : List Nat) (hC : isC.map (fun i => ws[i]?) = wc.map some) (hR : isR.map (fun i => ws[i]?) = wr.map some) (hn : va_nd isR = true) (hdis : ∀ i ∈ isR, i ∉ isC)
    (kk : ∀ (H1 : Heap) (locs1 : List Loc), ax G A H0 (wr ++ w1) (sz + mc) H1 locs1 → W p l e R s m args below meth c H1 locs1 (cells + mc) (slots + ms) Q (F0 m (pc + 3) ls rest)) : W p l e R s m args below meth c H locs cells slots Q (F0 m pc ls st0) := by
  obtain ⟨hP, hD, hS, hz⟩ := h
  subst hz
  have hF := va_free (wc := wc) hD hS hA isC hC
  intro T hT X
  obtain ⟨v, st₀, t, T', L, h0, X', hL, e1, e2, ⟨hv, hz1, hP1, hD1, hzz, hk⟩, st⟩ := hr T hT X
  cases hv
  rw [h0] at hzz hk
  obtain ⟨hPj, hDj⟩ := va_join hP hD isC isR hC hR hn hdis (H1 := t.heap) (fun q h1 h2 => hk q h1 h2) hF hP1 hD1
  obtain ⟨t2, a1, b1⟩ := kk T'.heap (locs ++ L) ⟨by rw [e1]; exact hPj, hDj, ⟨Nat.le_trans hS.1 (by rw [e1]; exact hzz), fun q h1 h2 => by rw [e1, hk q (Nat.lt_of_lt_of_le h1 hS.1) (fun z => h2 (hF q z))]; exact hS.2.1 q h1 h2, fun q hq => by
      rcases List.mem_append.mp hq with h | h
      · exact hS.2.2 q h
      · exact hF _ (hL q h)⟩, by rw [e1]; exact hz1⟩ T' rfl X'
  exact ⟨t2, st t2 a1, b1⟩
theorem ax_pre (X : aX p s m args meth c y cc nL ry own G) (h : ax G A H0 ws sz H locs) {wc : va_W} (isC : List Nat) (hnC : va_nd isC = true) (hC : isC.map (fun i => ws[i]?) = wc.map some) (hC2 : isC.filterMap (fun i => ws[i]?) = wc) (av : List Value) : ∀ U : State, U.heap = H → s.WarmedH U.vm → lP G av wc sz av.toArray U := fun U hU hW => ⟨rfl, X.hK.warm hW, X.hao.moved hW.alike, by rw [hU]; exact h.2.2.2, by rw [hU]; exact h.1.sub isC hC2, (h.2.1.sub isC hnC hC).weaken (fun _ _ _ _ => trivial)⟩
theorem ax_callI (X : aX p s m args meth c y cc nL ry own G) {y2 : MethodName} {c2 : ByteArray} {n2 fr lo mc ms idx b : Nat} {wc wr w1 : va_W} (hM : CL l y2 c2 n2 fr lo mc ms G [.ref b] wc sz w1) (hw : Cond.code y2 c2 n2 none ∈ LW ∧ Cond.methodLink own idx y2 ∈ LW ∧ Cond.instanceMethod y2 ∈ LW ∧ Cond.initialized y2.cls ∈ LW) (hy1 : y2.name = "<init>") (hd : y2.cls ≠ "java/lang/invoke/MethodHandle" ∧ y2.cls ≠ "java/lang/invoke/VarHandle" ∧ (parseMethodDescriptor y2.desc).map (fun d => d.parameters.length) = some 0) (hR : fr + 1 ≤ R.frames ∧ 8 + (n2 + 11) + lo ≤ R.locals) (h : ax G A H0 ws sz H locs) (hA : ∀ q, H0.size ≤ q → A q) (isC isR : List Nat) (hnC : va_nd isC = true) (hC : isC.map (fun i => ws[i]?) = wc.map some) (hC2 : isC.filterMap (fun i => ws[i]?) = wc) (hRr : isR.map (fun i => ws[i]?) = wr.map some) (hn : va_nd isR = true) (hdis : ∀ i ∈ isR, i ∉ isC) {lv : List (Nat × Value)} (hl : lv_has ls nL lv) (hrm : (rest.map fun v => v.category).sum ≤ 8) (hf : cells + mc ≤ R.cells ∧ slots + ms ≤ R.slots) (hdg : decode cc pc = .ok (.invokespecial idx, 3))
    (kk : ∀ (H1 : Heap) (locs1 : List Loc), ax G A H0 (wr ++ w1) (sz + mc) H1 locs1 → W p l e R s m args below meth c H1 locs1 (cells + mc) (slots + ms) Q (F0 m (pc + 3) ls rest)) : W p l e R s m args below meth c H locs cells slots Q (F0 m pc ls (.ref b :: rest)) :=
  ax_ret (va_runI (As := []) (rest := rest) (b := b) ⟨X.hx, X.hb, X.hml, X.hown, X.hts⟩ hM (cwI 0 X.hts (wm_good hw.1) rfl rfl rfl (X.w hw.2.2.2) (X.w hw.2.1) (X.w hw.2.2.1) hy1 hd hR) ⟨lP.blind G _ _ _, ax_pre X h isC hnC hC hC2 _⟩ rfl rfl hl.1 rfl (lv_room hrm) hdg hf) h hA isC isR hC hRr hn hdis kk
theorem ax_callIN (X : aX p s m args meth c y cc nL ry own G) {y2 : MethodName} {c2 : ByteArray} {n2 fr lo mc ms idx b : Nat} {host : String} {wc wr w1 : va_W} (hM : CL l y2 c2 n2 fr lo mc ms G [.ref b] wc sz w1) (hnw : va_Nw (.methodLinkNest own idx y2 host) s) (hw : Cond.code y2 c2 n2 none ∈ LW ∧ Cond.instanceMethod y2 ∈ LW ∧ Cond.initialized y2.cls ∈ LW) (hy1 : y2.name = "<init>") (hd : y2.cls ≠ "java/lang/invoke/MethodHandle" ∧ y2.cls ≠ "java/lang/invoke/VarHandle" ∧ (parseMethodDescriptor y2.desc).map (fun d => d.parameters.length) = some 0) (hR : fr + 1 ≤ R.frames ∧ 8 + (n2 + 11) + lo ≤ R.locals) (h : ax G A H0 ws sz H locs) (hA : ∀ q, H0.size ≤ q → A q) (isC isR : List Nat) (hnC : va_nd isC = true) (hC : isC.map (fun i => ws[i]?) = wc.map some) (hC2 : isC.filterMap (fun i => ws[i]?) = wc) (hRr : isR.map (fun i => ws[i]?) = wr.map some) (hn : va_nd isR = true) (hdis : ∀ i ∈ isR, i ∉ isC) {lv : List (Nat × Value)} (hl : lv_has ls nL lv) (hrm : (rest.map fun v => v.category).sum ≤ 8) (hf : cells + mc ≤ R.cells ∧ slots + ms ≤ R.slots) (hdg : decode cc pc = .ok (.invokespecial idx, 3))
    (kk : ∀ (H1 : Heap) (locs1 : List Loc), ax G A H0 (wr ++ w1) (sz + mc) H1 locs1 → W p l e R s m args below meth c H1 locs1 (cells + mc) (slots + ms) Q (F0 m (pc + 3) ls rest)) : W p l e R s m args below meth c H locs cells slots Q (F0 m pc ls (.ref b :: rest)) :=
  ax_ret (va_runIN (As := []) (rest := rest) (b := b) ⟨X.hx, X.hb, X.hml, X.hown, X.hts⟩ hM ⟨va_cnB 0 X.hts (wm_good hw.1) rfl rfl rfl hnw (X.w hw.2.2) hd hR, hy1, X.w hw.2.1⟩ ⟨lP.blind G _ _ _, ax_pre X h isC hnC hC hC2 _⟩ rfl rfl hl.1 rfl (lv_room hrm) hdg hf) h hA isC isR hC hRr hn hdis kk
theorem ax_callV (X : aX p s m args meth c y cc nL ry own G) {y2 : MethodName} {c2 : ByteArray} {n2 fr lo mc ms idx b ci : Nat} {wc wr w1 : va_W} (hM : CL l y2 c2 n2 fr lo mc ms G [.ref b] wc sz w1) {C : String} {T : u_T} {N : Nat} (hc : vwCl[ci]? = some (C, T, N)) (hw : Cond.code y2 c2 n2 none ∈ LW ∧ Cond.methodLink own idx y2 ∈ LW ∧ Cond.instanceMethod y2 ∈ LW ∧ Cond.selects C y2 y2 ∈ LW ∧ Cond.initialized C ∈ LW) (hd : y2.cls = C ∧ y2.cls ≠ "java/lang/invoke/MethodHandle" ∧ y2.cls ≠ "java/lang/invoke/VarHandle" ∧ (parseMethodDescriptor y2.desc).map (fun d => d.parameters.length) = some 0) (hR : fr + 1 ≤ R.frames ∧ 8 + (n2 + 11) + lo ≤ R.locals) (h : ax G A H0 ws sz H locs) (hA : ∀ q, H0.size ≤ q → A q) (q0 : Nat) {fs : List Value} (hq0 : ws[q0]? = some (b, .inr (ci, fs))) (isC isR : List Nat) (hnC : va_nd isC = true) (hC : isC.map (fun i => ws[i]?) = wc.map some) (hC2 : isC.filterMap (fun i => ws[i]?) = wc) (hRr : isR.map (fun i => ws[i]?) = wr.map some) (hn : va_nd isR = true) (hdis : ∀ i ∈ isR, i ∉ isC) {lv : List (Nat × Value)} (hl : lv_has ls nL lv) (hrm : (rest.map fun v => v.category).sum ≤ 8) (hf : cells + mc ≤ R.cells ∧ slots + ms ≤ R.slots) (hdg : decode cc pc = .ok (.invokevirtual idx, 3))
    (kk : ∀ (H1 : Heap) (locs1 : List Loc), ax G A H0 (wr ++ w1) (sz + mc) H1 locs1 → W p l e R s m args below meth c H1 locs1 (cells + mc) (slots + ms) Q (F0 m (pc + 3) ls rest)) : W p l e R s m args below meth c H locs cells slots Q (F0 m pc ls (.ref b :: rest)) :=
  ax_ret (va_runV (As := []) (rest := rest) (b := b) ⟨X.hx, X.hb, X.hml, X.hown, X.hts⟩ hM (cwV 0 X.hts (wm_goodV hw.1 hw.2.1 hw.2.2.1 hw.2.2.2.1 hw.2.2.2.2) rfl rfl rfl hd hR) ⟨lP.blind G _ _ _, va_recv X.hK.1 h.1 hc hq0, ax_pre X h isC hnC hC hC2 _⟩ rfl rfl hl.1 rfl (lv_room hrm) hdg hf) h hA isC isR hC hRr hn hdis kk
theorem ax_callS (X : aX p s m args meth c y cc nL ry own G) {y2 : MethodName} {c2 : ByteArray} {n2 fr lo mc ms idx na : Nat} {As : List Value} {wc wr w1 : va_W} (hM : CL l y2 c2 n2 fr lo mc ms G As wc sz w1) (hw : Cond.code y2 c2 n2 none ∈ LW ∧ Cond.methodLink own idx y2 ∈ LW ∧ Cond.static y2 ∈ LW ∧ Cond.initialized y2.cls ∈ LW) (hd : y2.cls ≠ "java/lang/invoke/MethodHandle" ∧ y2.cls ≠ "java/lang/invoke/VarHandle" ∧ (parseMethodDescriptor y2.desc).map (fun d => d.parameters.length) = some na) (hR : fr + 1 ≤ R.frames ∧ 8 + (n2 + 11) + lo ≤ R.locals) (h : ax G A H0 ws sz H locs) (hA : ∀ q, H0.size ≤ q → A q) (isC isR : List Nat) (hnC : va_nd isC = true) (hC : isC.map (fun i => ws[i]?) = wc.map some) (hC2 : isC.filterMap (fun i => ws[i]?) = wc) (hRr : isR.map (fun i => ws[i]?) = wr.map some) (hn : va_nd isR = true) (hdis : ∀ i ∈ isR, i ∉ isC) {lv : List (Nat × Value)} (hl : lv_has ls nL lv) {st0 : List Value} (hst : st0 = As.reverse ++ rest) (hna : As.length = na) (hrm : (rest.map fun v => v.category).sum ≤ 8) (hf : cells + mc ≤ R.cells ∧ slots + ms ≤ R.slots) (hdg : decode cc pc = .ok (.invokestatic idx, 3))
    (kk : ∀ (H1 : Heap) (locs1 : List Loc), ax G A H0 (wr ++ w1) (sz + mc) H1 locs1 → W p l e R s m args below meth c H1 locs1 (cells + mc) (slots + ms) Q (F0 m (pc + 3) ls rest)) : W p l e R s m args below meth c H locs cells slots Q (F0 m pc ls st0) :=
  ax_ret (va_runS (As := As) (rest := rest) ⟨X.hx, X.hb, X.hml, X.hown, X.hts⟩ hM ⟨callB_of na X.hts (wm_good hw.1) rfl rfl rfl (X.w hw.2.2.2) (X.w hw.2.1) hd hR, X.w hw.2.2.1⟩ ⟨lP.blind G _ _ _, ax_pre X h isC hnC hC hC2 _⟩ rfl hna hl.1 hst (lv_room hrm) hdg hf) h hA isC isR hC hRr hn hdis kk
theorem ax_vret (X : aX p s m args meth c y cc nL ry own G) (hret : meth.sig.returnType = none) {w0 : va_W} {sz0 mc ms : Nat} (h : ax G (va_A w0 sz0) s.heap ws (sz0 + mc) H locs) (hc : cells = mc) (hs : slots = ms) (hdg : decode cc pc = .ok (.return_, 1)) : W p l e R s m args below meth c H locs cells slots (MQ below (lQ G w0 sz0 mc ws) args s mc ms (va_A w0 sz0)) (F0 m pc ls []) := by
  subst hc; subst hs
  obtain ⟨hP, hD, hS, hz⟩ := h
  have hlocks := X.hlk
  exact W.vret X.hx X.hb hret (fun t ht hW => ⟨rfl, by rw [ht]; exact hz, by rw [ht]; exact hP, hD, hS.F ht⟩) hS.2.2 hdg
end AX
theorem CL.of {l : Launch} {y : MethodName} {cc : ByteArray} {n : Nat} {fr lo mc ms : Nat} {G : gG} {av : List Value} {ws ws' : va_W} {sz : Nat} (hy : plainName y.cls = true) (hav : (lg_sl av).length ≤ n)
    (body : ∀ (p : Program) (e : Env) (s : State) (m : MethodId) (below : List Frame) (meth : Method) (c : Code) (ls : Array Slot), aX p s m av.toArray meth c y cc n none y.cls G → meth.sig.returnType = none → meth.name = y.name → s.heap.size = sz → ax G (va_A ws sz) s.heap ws sz s.heap [] → (∀ q, s.heap.size ≤ q → va_A ws sz q) → lv_has ls n (lv_args 0 av) → W p l e (rmc fr lo mc ms) s m av.toArray below meth c s.heap [] 0 0 (MQ below (lQ G ws sz mc ws') av.toArray s mc ms (va_A ws sz)) (F0 m 0 ls [])) : CL l y cc n fr lo mc ms G av ws sz ws' := by
  refine Met.ofW (cc := cc) (maxL := n) (ret := none) hy rfl ?_
  intro p e s m args below meth c s₁ B hml hv
  obtain ⟨rfl, hK, hao, hz, hP, hD⟩ := hv
  have hl := lv_entry av (n := n) hav
  rw [lg_entry_eq]
  exact body p e s m below meth c _ ⟨B.exec, B.bytes, hml, findClass_of_methodNamed B.named, atoms_spec (ws := wm y cc n none) B.pre, B.notSynchronized, hao, hK⟩ B.returns (name_of_methodNamed B.named B.method).1 hz ⟨hP, hD.self, va_S.rf, hz⟩ (fun q h => Or.inr (by rw [← hz]; exact h)) hl
