/-! the abstract memory: objects are numbers; arrays belong to (object, slot) -/
abbrev Mem : Type := (Nat → Nat → Int32) × (Nat → Nat → Int64) × (Nat → Nat → Nat) × (Nat → Nat → Nat → Int32) × (Nat → Nat → Nat → Int64) × (Nat → Nat → Nat → Nat)
def mI (σ : Mem) (o k : Nat) : Int32 := σ.1 o k
def mL (σ : Mem) (o k : Nat) : Int64 := σ.2.1 o k
def mP (σ : Mem) (o k : Nat) : Nat := σ.2.2.1 o k
def mA (σ : Mem) (o k : Nat) : Nat → Int32 := σ.2.2.2.1 o k
def mB (σ : Mem) (o k : Nat) : Nat → Int64 := σ.2.2.2.2.1 o k
def mE (σ : Mem) (o k : Nat) : Nat → Nat := σ.2.2.2.2.2 o k
def up2 {α : Type} (f : Nat → Nat → α) (o k : Nat) (v : α) : Nat → Nat → α := fun o' k' => if o' = o ∧ k' = k then v else f o' k'
def sI (σ : Mem) (o k : Nat) (v : Int32) : Mem := (up2 σ.1 o k v, σ.2)
def sL (σ : Mem) (o k : Nat) (v : Int64) : Mem := (σ.1, up2 σ.2.1 o k v, σ.2.2)
def sP (σ : Mem) (o k : Nat) (v : Nat) : Mem := (σ.1, σ.2.1, up2 σ.2.2.1 o k v, σ.2.2.2)
def sA (σ : Mem) (o k i : Nat) (v : Int32) : Mem := (σ.1, σ.2.1, σ.2.2.1, up2 σ.2.2.2.1 o k (upd (σ.2.2.2.1 o k) i v), σ.2.2.2.2)
def sB (σ : Mem) (o k i : Nat) (v : Int64) : Mem := (σ.1, σ.2.1, σ.2.2.1, σ.2.2.2.1, up2 σ.2.2.2.2.1 o k (vp_updL (σ.2.2.2.2.1 o k) i v), σ.2.2.2.2.2)
/-- steps of the printed functions -/
def stp {α β : Type} (x : α) (k : α → β) : β := k x
def gd {α : Type} (b : Bool) (x : Option α) : Option α := if b = true then x else none
def inb (i : Int32) (n : Nat) : Bool := decide (0 ≤ i) && decide (i.toNatClampNeg < n)
def zb (x : Int32) : Bool := decide (x = 0) || decide (x = 1)
def bd {α β : Type} (x : Option α) (k : α → Option β) : Option β := match x with
  | none => none
  | some a => k a
theorem stp_e {α β : Type} {x : α} {k : α → β} {y : β} (h : stp x k = y) : ∃ z, z = x ∧ k z = y := ⟨x, rfl, h⟩
theorem gd_e {α : Type} {b : Bool} {x : Option α} {y : α} (h : gd b x = some y) : b = true ∧ x = some y := by
  unfold gd at h
  split at h
  · exact ⟨by assumption, h⟩
  · cases h
theorem bd_e {α β : Type} {x : Option α} {k : α → Option β} {y : β} (h : bd x k = some y) : ∃ a, x = some a ∧ k a = some y := by
  cases x with
  | none => cases h
  | some a => exact ⟨a, rfl, h⟩
theorem it_p {α : Type} {c : Prop} [Decidable c] {a b r : α} (h : (if c then a else b) = r) (hc : c) : a = r := by rw [if_pos hc] at h; exact h
theorem it_n {α : Type} {c : Prop} [Decidable c] {a b r : α} (h : (if c then a else b) = r) (hc : ¬ c) : b = r := by rw [if_neg hc] at h; exact h
theorem inb_e {i : Int32} {n : Nat} (h : inb i n = true) : vp_in i n := by
  unfold inb at h
  simp only [Bool.and_eq_true, decide_eq_true_eq] at h
  intro q
  rcases q with q | q
  · exact absurd h.1 (Int32.not_le.mpr q)
  · omega
theorem inb_lt {i : Int32} {n : Nat} (h : inb i n = true) : i.toNatClampNeg < n := by
  unfold inb at h
  simp only [Bool.and_eq_true, decide_eq_true_eq] at h
  exact h.2
theorem zb_e {x : Int32} (h : zb x = true) : x = 0 ∨ x = 1 := by
  unfold zb at h
  simp only [Bool.or_eq_true, decide_eq_true_eq] at h
  exact h
/-- the parameters of a world: class numbers and slots, array classes by kind, class of each object, addresses (j = 0 the object, k + 1 its array in slot k), the cells that may change -/
abbrev gG : Type := va_G × (Nat → ClassId) × (Nat → Option Nat) × (Nat → Nat → Nat) × (Nat → Prop)
abbrev gca (G : gG) : Nat → ClassId := G.2.1
abbrev gsh (G : gG) : Nat → Option Nat := G.2.2.1
abbrev gad (G : gG) : Nat → Nat → Nat := G.2.2.2.1
abbrev gAA (G : gG) : Nat → Prop := G.2.2.2.2
def gV (ad : Nat → Nat → Nat) (σ : Mem) (o k : Nat) (q : Nat × Nat) : Value := match q.1 with
  | 0 => .int (mI σ o k)
  | 1 => .int (mI σ o k)
  | 2 => .long (mL σ o k)
  | 3 => .ref (ad (mP σ o k) 0)
  | _ => .ref (ad o (k + 1))
def gC (ad : Nat → Nat → Nat) (σ : Mem) (o k : Nat) (q : Nat × Nat) : vp_A := match q.1 with
  | 4 => (q.2, .inl (mA σ o k))
  | 5 => (q.2, .inl (mA σ o k))
  | 6 => (q.2, .inr (.inl (mB σ o k)))
  | _ => (q.2, .inr (.inr (.inr (.inr (fun j => some (ad (mE σ o k j) 0))))))
def gv (G : gG) (o j : Nat) : Prop := ∃ ci, gsh G o = some ci ∧ (j = 0 ∨ ∃ k q, j = k + 1 ∧ (kd ci)[k]? = some q ∧ 4 ≤ q.1)
def gD (G : gG) : Prop := (∀ o j o' j', gv G o j → gv G o' j' → gad G o j = gad G o' j' → o = o' ∧ j = j') ∧ ∀ o j, gv G o j → gAA G (gad G o j)
def gH (G : gG) (σ : Mem) (H : Heap) : Prop :=
  (∀ o ci, gsh G o = some ci → ∃ r : vw_C, vwCl[ci]? = some r ∧ t_OB (gad G o 0) (G.1.1 ci) r.2.2 (G.1.2 ci) H (fun k => gV (gad G) σ o k ((kd ci).getD k (0, 0)))) ∧
  (∀ o ci k q, gsh G o = some ci → (kd ci)[k]? = some q → 4 ≤ q.1 → H[gad G o (k + 1)]? = some (vp_cell (gca G q.1) (gC (gad G) σ o k q))) ∧
  (∀ o ci k c', gsh G o = some ci → (kd ci)[k]? = some (3, c') → gsh G (mP σ o k) = some c') ∧
  (∀ o ci k n i, gsh G o = some ci → (kd ci)[k]? = some (7, n) → i < n → gsh G (mE σ o k i) = some 2)
def gty (G : gG) : List (ClassId × FieldType) := [(gca G 4, .int), (gca G 5, .boolean), (gca G 6, .long), (gca G 7, .object RX2)]
def gK (G : gG) (U : State) : Prop := va_K G.1 vwCl (gty G) U ∧ va_Nw nw0 U ∧ va_Nw nw1 U ∧ va_Nw nw2 U ∧ va_Nw nw3 U
theorem gK.warm {G : gG} {s U : State} (hW : s.WarmedH U.vm) (h : gK G s) : gK G U := ⟨va_K.moved hW.alike h.1, va_Nw.warmM hW h.2.1, va_Nw.warmM hW h.2.2.1, va_Nw.warmM hW h.2.2.2.1, va_Nw.warmM hW h.2.2.2.2⟩
theorem gK.call {G : gG} {U : State} {g : JFrame} {mk : MethodId} {a : Array Value} (h : gK G U) : gK G (U.calling g mk a) :=
  ⟨va_K.moved (u := U) (U := U.calling g mk a) (Vm.Alike.refl U.vm) h.1, va_Nw.same rfl rfl h.2.1, va_Nw.same rfl rfl h.2.2.1, va_Nw.same rfl rfl h.2.2.2.1, va_Nw.same rfl rfl h.2.2.2.2⟩
theorem gv_o {G : gG} {o ci : Nat} (h : gsh G o = some ci) : gv G o 0 := ⟨ci, h, Or.inl rfl⟩
theorem gv_a {G : gG} {o ci k : Nat} {q : Nat × Nat} (h : gsh G o = some ci) (hq : (kd ci)[k]? = some q) (h4 : 4 ≤ q.1) : gv G o (k + 1) := ⟨ci, h, Or.inr ⟨k, q, rfl, hq, h4⟩⟩
/-- an array: owner, slot, kind, length -/
def gvA (G : gG) (o k t n : Nat) : Prop := ∃ ci, gsh G o = some ci ∧ (kd ci)[k]? = some (t, n)
/-- the words of every method: its code, and all of the tables that keep -/
def LW : List Cond := lw_tbl.filter goodWord
theorem LW_in {w : Cond} (h : w ∈ lw_tbl) (g : goodWord w = true) : w ∈ LW := List.mem_filter.mpr ⟨h, g⟩
def wm (y : MethodName) (cc : ByteArray) (n : Nat) (r : Option FieldType) : List Cond := Cond.code y cc n r :: LW
theorem wm_in {y : MethodName} {cc : ByteArray} {n : Nat} {r : Option FieldType} {w : Cond} (h : w ∈ LW) : w ∈ wm y cc n r := List.mem_cons_of_mem _ h
theorem wm_good {y y' : MethodName} {cc cc' : ByteArray} {n n' : Nat} {r r' : Option FieldType} (h : Cond.code y' cc' n' r' ∈ LW) : GoodIn (wm y cc n r) (wm y' cc' n' r') := by
  intro w hw
  rcases List.mem_cons.mp hw with e | e
  · subst e
    exact ⟨wm_in h, good_of_word (List.mem_filter.mp h).2⟩
  · exact ⟨wm_in e, good_of_word (List.mem_filter.mp e).2⟩
theorem wm_goodV {y y' : MethodName} {cc cc' : ByteArray} {n n' : Nat} {r r' : Option FieldType} {own C : String} {idx : Nat} (h : Cond.code y' cc' n' r' ∈ LW) (h1 : Cond.methodLink own idx y' ∈ LW) (h2 : Cond.instanceMethod y' ∈ LW) (h3 : Cond.selects C y' y' ∈ LW) (h4 : Cond.initialized C ∈ LW) : GoodIn (wm y cc n r) (wsV own idx C y' (wm y' cc' n' r')) := by
  intro w hw
  unfold wsV at hw
  rcases List.mem_append.mp hw with e | e
  · simp only [List.mem_cons, List.not_mem_nil, or_false] at e
    rcases e with e | e | e | e <;> subst e
    · exact ⟨wm_in h1, good_of_word (List.mem_filter.mp h1).2⟩
    · exact ⟨wm_in h2, good_of_word (List.mem_filter.mp h2).2⟩
    · exact ⟨wm_in h3, good_of_word (List.mem_filter.mp h3).2⟩
    · exact ⟨wm_in h4, good_of_word (List.mem_filter.mp h4).2⟩
  · exact wm_good h w e
/-- a contract: from memory σ, with the answer ov, to memory σ' -/
def cP (G : gG) (σ : Mem) (av : List Value) : Array Value → State → Prop := fun v U => v = av.toArray ∧ gD G ∧ gK G U ∧ gH G σ U.heap
def cQ (G : gG) (ov : Option Value) (σ' : Mem) : Array Value → State → Outcome → State → Prop := fun _ st oc t => oc = .returned ov ∧ gH G σ' t.heap ∧ va_F (gAA G) st t
abbrev rmr (fr lo : Nat) : Room := { frames := fr, cells := 0, slots := 0, locals := lo }
def CM (l : Launch) (y : MethodName) (cc : ByteArray) (n : Nat) (r : Option FieldType) (fr lo : Nat) (G : gG) (σ : Mem) (av : List Value) (ov : Option Value) (σ' : Mem) : Prop :=
  Met l y (wm y cc n r) (rmr fr lo) (cP G σ av) (cQ G ov σ') 0 0 (gAA G)
theorem cP.blind (G : gG) (σ : Mem) (av : List Value) : FrameBlind (cP G σ av) := fun _ _ _ _ q => ⟨q.1, q.2.1, gK.call q.2.2.1, q.2.2.2⟩
/-- what holds all through a method's body -/
def gX (p : Program) (s : State) (m : MethodId) (args : Array Value) (meth : Method) (c : Code) (y : MethodName) (cc : ByteArray) (n : Nat) (r : Option FieldType) (own : String) (G : gG) : Prop :=
  p.tables.exec = Jvm.exec ∧ c.code = cc ∧ c.maxLocals = n ∧ s.vm.findClass own = some m.cls ∧ (∀ w ∈ wm y cc n r, w.before args s = true) ∧ meth.locks = false ∧ meth.sig.returnType = r ∧ gD G ∧ gK G s
section GR
variable {p : Program} {l : Launch} {e : Env} {R : Room} {s : State} {m : MethodId} {args : Array Value} {below : List Frame} {meth : Method} {c : Code} {H : Heap} {locs : List Loc} {cells slots : Nat} {Q : State → Prop}
variable {y : MethodName} {cc : ByteArray} {nL : Nat} {ry : Option FieldType} {own : String} {G : gG} {σ : Mem} {pc : Nat} {ls : Array Slot} {rest : List Value} {H0 : Heap}
theorem gX.hx (X : gX p s m args meth c y cc nL ry own G) : p.tables.exec = Jvm.exec := X.1
theorem gX.hb (X : gX p s m args meth c y cc nL ry own G) : c.code = cc := X.2.1
theorem gX.hml (X : gX p s m args meth c y cc nL ry own G) : c.maxLocals = nL := X.2.2.1
theorem gX.hown (X : gX p s m args meth c y cc nL ry own G) : s.vm.findClass own = some m.cls := X.2.2.2.1
theorem gX.hts (X : gX p s m args meth c y cc nL ry own G) : ∀ w ∈ wm y cc nL ry, w.before args s = true := X.2.2.2.2.1
theorem gX.w (X : gX p s m args meth c y cc nL ry own G) {w : Cond} (h : w ∈ LW) : w.before args s = true := X.hts w (wm_in h)
theorem gX.hlk (X : gX p s m args meth c y cc nL ry own G) : meth.locks = false := X.2.2.2.2.2.1
theorem gX.hr (X : gX p s m args meth c y cc nL ry own G) : meth.sig.returnType = ry := X.2.2.2.2.2.2.1
theorem gX.hD (X : gX p s m args meth c y cc nL ry own G) : gD G := X.2.2.2.2.2.2.2.1
theorem gX.hK (X : gX p s m args meth c y cc nL ry own G) : gK G s := X.2.2.2.2.2.2.2.2
theorem g_get (X : gX p s m args meth c y cc nL ry own G) (hH : gH G σ H) {C : String} {T : u_T} {N ci k idx o : Nat} (hin : ∀ w ∈ u_ws C T N, w ∈ LW) (hc : vwCl[ci]? = some (C, T, N)) (hk : k < N) (hlk : Cond.fieldLink own idx (T k).1 (T k).2.1 (T k).2.2.1 ∈ LW) {q : Nat × Nat} (hq : (kd ci).getD k (0, 0) = q) (ho : gsh G o = some ci)
    (hdg : decode cc pc = .ok (.getfield idx, 3)) (kk : W p l e R s m args below meth c H locs cells slots Q (F0 m (pc + 3) ls (gV (gad G) σ o k q :: rest))) : W p l e R s m args below meth c H locs cells slots Q (F0 m pc ls (.ref (gad G o 0) :: rest)) := by
  obtain ⟨r, h1, cell, q1, q2, q3, q4⟩ := hH.1 o ci ho
  have hr : r = (C, T, N) := Option.some.inj (h1.symm.trans hc)
  subst hr
  obtain ⟨hS, hfc, kC, hkC, hkind⟩ := X.hK.1.1 ci _ hc
  obtain ⟨cf, kf, fi, f, hi, hsl⟩ := hS k hk
  refine W.getf X.hx X.hb X.hown (X.w hlk) hi (u_facts hfc hkC (u_lays X.hts (fun w h => wm_in (hin w h)) hk) hi).1 q1 (by rw [q3]; exact fun h => by cases h) (v := gV (gad G) σ o k q) ?_ rfl rfl hdg kk
  rw [hsl, q4 k hk]
  simp only [hq]
theorem gV_eq {ad : Nat → Nat → Nat} {σ σ' : Mem} {o k : Nat} {q : Nat × Nat} (h1 : mI σ' o k = mI σ o k) (h2 : mL σ' o k = mL σ o k) (h3 : mP σ' o k = mP σ o k) : gV ad σ' o k q = gV ad σ o k q := by
  unfold gV
  rw [h1, h2, h3]
/-- a field is written -/
theorem g_putV (X : gX p s m args meth c y cc nL ry own G) (hH : gH G σ H) (hS0 : va_S (gAA G) H0 H locs) {C : String} {T : u_T} {N ci k idx o : Nat} (hin : ∀ w ∈ u_ws C T N, w ∈ LW) (hc : vwCl[ci]? = some (C, T, N)) (ty0 : Nat → FieldType) (hty : ∀ k, k < N → parseFieldDescriptor (T k).2.2.1 = some (ty0 k)) (hnm : ∀ a, a < N → ∀ b, b < N → a ≠ b → (T a).2.1 ≠ (T b).2.1) (hk : k < N) (hlk : Cond.fieldLink own idx (T k).1 (T k).2.1 (T k).2.2.1 ∈ LW) (hfin : (T k).2.2.2 = false) {v : Value} (hn : narrow (ty0 k) v = v) (hfit : fits (ty0 k) v = true) (ho : gsh G o = some ci)
    {σ' : Mem} (hv : gV (gad G) σ' o k ((kd ci).getD k (0, 0)) = v) (hoth : ∀ o' k', (o', k') ≠ (o, k) → ∀ q, gV (gad G) σ' o' k' q = gV (gad G) σ o' k' q) (hA : ∀ o' k' q, gC (gad G) σ' o' k' q = gC (gad G) σ o' k' q) (hP : ∀ o' ci k c', gsh G o' = some ci → (kd ci)[k]? = some (3, c') → gsh G (mP σ' o' k) = some c') (hE : mE σ' = mE σ)
    (hdg : decode cc pc = .ok (.putfield idx, 3)) (kk : ∀ (H1 : Heap) (locs1 : List Loc), gH G σ' H1 → va_S (gAA G) H0 H1 locs1 → W p l e R s m args below meth c H1 locs1 cells slots Q (F0 m (pc + 3) ls rest)) : W p l e R s m args below meth c H locs cells slots Q (F0 m pc ls (v :: .ref (gad G o 0) :: rest)) := by
  have hts := X.hts
  have hin2 : ∀ w ∈ u_ws C T N, w ∈ wm y cc nL ry := fun w h => wm_in (hin w h)
  have hap := va_apart (own := own) hts hin2 ty0 hty hnm X.hK.1 hc
  obtain ⟨r, h1, cell, q1, q2, q3, q4⟩ := hH.1 o ci ho
  have hr : r = (C, T, N) := Option.some.inj (h1.symm.trans hc)
  subst hr
  obtain ⟨hS, hfc, kC, hkC, hkind⟩ := X.hK.1.1 ci _ hc
  obtain ⟨cf, kf, fi, f, hi, hsl⟩ := hS k hk
  have hlay := hts _ (hin2 _ (u_in_lay hk))
  unfold u_lay at hlay
  rw [if_neg (by rw [hfin]; decide)] at hlay
  have hst := (u_facts hfc hkC (u_lays hts hin2 hk) hi).1
  have h6 := u_store hfc hkC hkind hlay hi (hty k hk) hn hfit
  refine W.putK X.hx X.hb (f := f) ⟨X.hown, X.w hlk, ⟨_, _, _, hi⟩, hst⟩ (by rw [q2]; exact h6) q1 q3 (by rw [hsl]; exact k2_hasslot (q4 k hk)) rfl rfl hdg fun H' e1 e2 e3 => ?_
  rw [hsl] at e1 ⊢
  refine kk H' _ ⟨fun o' ci' ho' => ?_, fun o' ci' k' q' ho' hq' h4 => ?_, hP, fun o' ci' k' n' i' ho' hq' hi' => by rw [hE]; exact hH.2.2.2 o' ci' k' n' i' ho' hq' hi'⟩ (hS0.put e2 e3 (X.hD.2 o 0 (gv_o ho)))
  · by_cases hoo : o' = o
    · subst hoo
      cases ho.symm.trans ho'
      refine ⟨_, hc, t_OB.to (V := updV (fun k => gV (gad G) σ o' k ((kd ci).getD k (0, 0))) k v) ⟨_, e1, q2, q3, t_set q4 hap hk v⟩ (fun j _ => ?_)⟩
      unfold updV
      by_cases hjk : j = k
      · subst hjk
        rw [if_pos rfl]; exact hv.symm
      · rw [if_neg hjk]; exact (hoth o' j (fun e => hjk (Prod.mk.inj e).2) _).symm
    · obtain ⟨r', g1, g2⟩ := hH.1 o' ci' ho'
      refine ⟨r', g1, (g2.kept (e3 _ (fun e => hoo (X.hD.1 o' 0 o 0 (gv_o ho') (gv_o ho) e).1))).to (fun j _ => (hoth o' j (fun e => hoo (Prod.mk.inj e).1) _).symm)⟩
  · rw [hA o' k' q', e3 _ (fun e => absurd (X.hD.1 o' (k' + 1) o 0 (gv_a ho' hq' h4) (gv_o ho) e).2 (Nat.succ_ne_zero k'))]
    exact hH.2.1 o' ci' k' q' ho' hq' h4
theorem up2_ne {α : Type} {f : Nat → Nat → α} {o k : Nat} {v : α} {o' k' : Nat} (h : (o', k') ≠ (o, k)) : up2 f o k v o' k' = f o' k' := by
  unfold up2
  rw [if_neg (fun e => h (by rw [e.1, e.2]))]
theorem up2_eq {α : Type} {f : Nat → Nat → α} {o k : Nat} {v : α} : up2 f o k v o k = v := by
  unfold up2
  rw [if_pos ⟨rfl, rfl⟩]
theorem g_putI (X : gX p s m args meth c y cc nL ry own G) (hH : gH G σ H) (hS0 : va_S (gAA G) H0 H locs) {C : String} {T : u_T} {N ci k idx o : Nat} (hin : ∀ w ∈ u_ws C T N, w ∈ LW) (hc : vwCl[ci]? = some (C, T, N)) (ty0 : Nat → FieldType) (hty : ∀ k, k < N → parseFieldDescriptor (T k).2.2.1 = some (ty0 k)) (hnm : ∀ a, a < N → ∀ b, b < N → a ≠ b → (T a).2.1 ≠ (T b).2.1) (hk : k < N) (hlk : Cond.fieldLink own idx (T k).1 (T k).2.1 (T k).2.2.1 ∈ LW) (hfin : (T k).2.2.2 = false) {x : Int32} (hn : narrow (ty0 k) (.int x) = .int x) (hfit : fits (ty0 k) (.int x) = true) (hq : ∀ σ : Mem, gV (gad G) σ o k ((kd ci).getD k (0, 0)) = .int (mI σ o k)) (ho : gsh G o = some ci)
    (hdg : decode cc pc = .ok (.putfield idx, 3)) (kk : ∀ (H1 : Heap) (locs1 : List Loc), gH G (sI σ o k x) H1 → va_S (gAA G) H0 H1 locs1 → W p l e R s m args below meth c H1 locs1 cells slots Q (F0 m (pc + 3) ls rest)) : W p l e R s m args below meth c H locs cells slots Q (F0 m pc ls (.int x :: .ref (gad G o 0) :: rest)) := by
  refine g_putV X hH hS0 hin hc ty0 hty hnm hk hlk hfin hn hfit ho (σ' := sI σ o k x) ?_ (fun o' k' h q => gV_eq (up2_ne h) rfl rfl) (fun _ _ _ => rfl) (fun o' ci' k' c' h1 h2 => hH.2.2.1 o' ci' k' c' h1 h2) rfl hdg kk
  rw [hq]
  show Value.int (up2 _ _ _ _ _ _) = _
  rw [up2_eq]
theorem g_putL (X : gX p s m args meth c y cc nL ry own G) (hH : gH G σ H) (hS0 : va_S (gAA G) H0 H locs) {C : String} {T : u_T} {N ci k idx o : Nat} (hin : ∀ w ∈ u_ws C T N, w ∈ LW) (hc : vwCl[ci]? = some (C, T, N)) (ty0 : Nat → FieldType) (hty : ∀ k, k < N → parseFieldDescriptor (T k).2.2.1 = some (ty0 k)) (hnm : ∀ a, a < N → ∀ b, b < N → a ≠ b → (T a).2.1 ≠ (T b).2.1) (hk : k < N) (hlk : Cond.fieldLink own idx (T k).1 (T k).2.1 (T k).2.2.1 ∈ LW) (hfin : (T k).2.2.2 = false) {x : Int64} (hn : narrow (ty0 k) (.long x) = .long x) (hfit : fits (ty0 k) (.long x) = true) (hq : ∀ σ : Mem, gV (gad G) σ o k ((kd ci).getD k (0, 0)) = .long (mL σ o k)) (ho : gsh G o = some ci)
    (hdg : decode cc pc = .ok (.putfield idx, 3)) (kk : ∀ (H1 : Heap) (locs1 : List Loc), gH G (sL σ o k x) H1 → va_S (gAA G) H0 H1 locs1 → W p l e R s m args below meth c H1 locs1 cells slots Q (F0 m (pc + 3) ls rest)) : W p l e R s m args below meth c H locs cells slots Q (F0 m pc ls (.long x :: .ref (gad G o 0) :: rest)) := by
  refine g_putV X hH hS0 hin hc ty0 hty hnm hk hlk hfin hn hfit ho (σ' := sL σ o k x) ?_ (fun o' k' h q => gV_eq rfl (up2_ne h) rfl) (fun _ _ _ => rfl) (fun o' ci' k' c' h1 h2 => hH.2.2.1 o' ci' k' c' h1 h2) rfl hdg kk
  rw [hq]
  show Value.long (up2 _ _ _ _ _ _) = _
  rw [up2_eq]
theorem g_putP (X : gX p s m args meth c y cc nL ry own G) (hH : gH G σ H) (hS0 : va_S (gAA G) H0 H locs) {C : String} {T : u_T} {N ci k idx o : Nat} (hin : ∀ w ∈ u_ws C T N, w ∈ LW) (hc : vwCl[ci]? = some (C, T, N)) (ty0 : Nat → FieldType) (hty : ∀ k, k < N → parseFieldDescriptor (T k).2.2.1 = some (ty0 k)) (hnm : ∀ a, a < N → ∀ b, b < N → a ≠ b → (T a).2.1 ≠ (T b).2.1) (hk : k < N) (hlk : Cond.fieldLink own idx (T k).1 (T k).2.1 (T k).2.2.1 ∈ LW) (hfin : (T k).2.2.2 = false) {x cx : Nat} (hn : ∀ a : Nat, narrow (ty0 k) (.ref a) = .ref a) (hfit : ∀ a : Nat, fits (ty0 k) (.ref a) = true) (hq : ∀ σ : Mem, gV (gad G) σ o k ((kd ci).getD k (0, 0)) = .ref (gad G (mP σ o k) 0)) (hq2 : (kd ci)[k]? = some (3, cx)) (ho : gsh G o = some ci) (hox : gsh G x = some cx)
    (hdg : decode cc pc = .ok (.putfield idx, 3)) (kk : ∀ (H1 : Heap) (locs1 : List Loc), gH G (sP σ o k x) H1 → va_S (gAA G) H0 H1 locs1 → W p l e R s m args below meth c H1 locs1 cells slots Q (F0 m (pc + 3) ls rest)) : W p l e R s m args below meth c H locs cells slots Q (F0 m pc ls (.ref (gad G x 0) :: .ref (gad G o 0) :: rest)) := by
  refine g_putV X hH hS0 hin hc ty0 hty hnm hk hlk hfin (hn _) (hfit _) ho (σ' := sP σ o k x) ?_ (fun o' k' h q => gV_eq rfl rfl (up2_ne h)) (fun _ _ _ => rfl) (fun o' ci' k' c' h1 h2 => ?_) rfl hdg kk
  · rw [hq]
    show Value.ref (gad G (up2 _ _ _ _ _ _) 0) = _
    rw [up2_eq]
  · by_cases he : (o', k') = (o, k)
    · obtain ⟨rfl, rfl⟩ := Prod.mk.inj he
      cases ho.symm.trans h1
      have hcx : cx = c' := by have := hq2.symm.trans h2; simp at this; exact this
      subst hcx
      show gsh G (up2 _ _ _ _ _ _) = _
      rw [up2_eq]; exact hox
    · show gsh G (up2 _ _ _ _ _ _) = _
      rw [up2_ne he]
      exact hH.2.2.1 o' ci' k' c' h1 h2
/-- arrays are read -/
theorem g_iald (X : gX p s m args meth c y cc nL ry own G) (hH : gH G σ H) {o k n : Nat} (ha : gvA G o k 4 n) {i : Int32} (hi : inb i n = true) (hdg : decode cc pc = .ok (.iaload, 1))
    (kk : W p l e R s m args below meth c H locs cells slots Q (F0 m (pc + 1) ls (.int (mA σ o k i.toNatClampNeg) :: rest))) : W p l e R s m args below meth c H locs cells slots Q (F0 m pc ls (.int i :: .ref (gad G o (k + 1)) :: rest)) := by
  obtain ⟨ci, h1, h2⟩ := ha
  have hcell : H[gad G o (k + 1)]? = some (arrV (gca G 4) n (fun j => .int (mA σ o k j))) := hH.2.1 o ci k (4, n) h1 h2 (show 4 ≤ 4 by decide)
  exact W.iald (v := .int (mA σ o k i.toNatClampNeg)) X.hx X.hb hcell ((X.hK.1.2 0 (gca G 4, .int) rfl).1 n (fun j => .int (mA σ o k j))) (fun q => by cases q) (by show ¬ (i < 0 ∨ (arrV _ _ _).slots.size ≤ _); rw [arrV_size]; exact inb_e hi) (by show (arrV _ _ _).slots[_]? = _; rw [arrV_read _ _ (inb_lt hi)]) rfl rfl hdg kk
theorem g_zald (X : gX p s m args meth c y cc nL ry own G) (hH : gH G σ H) {o k n : Nat} (ha : gvA G o k 5 n) {i : Int32} (hi : inb i n = true) (hdg : decode cc pc = .ok (.baload, 1))
    (kk : W p l e R s m args below meth c H locs cells slots Q (F0 m (pc + 1) ls (.int (mA σ o k i.toNatClampNeg) :: rest))) : W p l e R s m args below meth c H locs cells slots Q (F0 m pc ls (.int i :: .ref (gad G o (k + 1)) :: rest)) := by
  obtain ⟨ci, h1, h2⟩ := ha
  have hcell : H[gad G o (k + 1)]? = some (arrV (gca G 5) n (fun j => .int (mA σ o k j))) := hH.2.1 o ci k (5, n) h1 h2 (show 4 ≤ 5 by decide)
  exact W.zald (v := .int (mA σ o k i.toNatClampNeg)) X.hx X.hb hcell ((X.hK.1.2 1 (gca G 5, .boolean) rfl).1 n (fun j => .int (mA σ o k j))) (fun q => by cases q) (by show ¬ (i < 0 ∨ (arrV _ _ _).slots.size ≤ _); rw [arrV_size]; exact inb_e hi) (by show (arrV _ _ _).slots[_]? = _; rw [arrV_read _ _ (inb_lt hi)]) rfl rfl hdg kk
theorem g_lald (X : gX p s m args meth c y cc nL ry own G) (hH : gH G σ H) {o k n : Nat} (ha : gvA G o k 6 n) {i : Int32} (hi : inb i n = true) (hdg : decode cc pc = .ok (.laload, 1))
    (kk : W p l e R s m args below meth c H locs cells slots Q (F0 m (pc + 1) ls (.long (mB σ o k i.toNatClampNeg) :: rest))) : W p l e R s m args below meth c H locs cells slots Q (F0 m pc ls (.int i :: .ref (gad G o (k + 1)) :: rest)) := by
  obtain ⟨ci, h1, h2⟩ := ha
  have hcell : H[gad G o (k + 1)]? = some (arrV (gca G 6) n (fun j => .long (mB σ o k j))) := hH.2.1 o ci k (6, n) h1 h2 (show 4 ≤ 6 by decide)
  exact W.lald (v := .long (mB σ o k i.toNatClampNeg)) X.hx X.hb hcell ((X.hK.1.2 2 (gca G 6, .long) rfl).1 n (fun j => .long (mB σ o k j))) (fun q => by cases q) (by show ¬ (i < 0 ∨ (arrV _ _ _).slots.size ≤ _); rw [arrV_size]; exact inb_e hi) (by show (arrV _ _ _).slots[_]? = _; rw [arrV_read _ _ (inb_lt hi)]) rfl rfl hdg kk
theorem g_aald (X : gX p s m args meth c y cc nL ry own G) (hH : gH G σ H) {o k n : Nat} (ha : gvA G o k 7 n) {i : Int32} (hi : inb i n = true) (hdg : decode cc pc = .ok (.aaload, 1))
    (kk : gsh G (mE σ o k i.toNatClampNeg) = some 2 → W p l e R s m args below meth c H locs cells slots Q (F0 m (pc + 1) ls (.ref (gad G (mE σ o k i.toNatClampNeg) 0) :: rest))) : W p l e R s m args below meth c H locs cells slots Q (F0 m pc ls (.int i :: .ref (gad G o (k + 1)) :: rest)) := by
  obtain ⟨ci, h1, h2⟩ := ha
  have hcell : H[gad G o (k + 1)]? = some (arrV (gca G 7) n (fun j => va_rf (some (gad G (mE σ o k j) 0)))) := hH.2.1 o ci k (7, n) h1 h2 (show 4 ≤ 7 by decide)
  exact W.aald (v := .ref (gad G (mE σ o k i.toNatClampNeg) 0)) (ty := .object RX2) X.hx X.hb hcell ((X.hK.1.2 3 (gca G 7, .object RX2) rfl).1 n (fun j => va_rf (some (gad G (mE σ o k j) 0)))) rfl (fun q => by cases q) (by show ¬ (i < 0 ∨ (arrV _ _ _).slots.size ≤ _); rw [arrV_size]; exact inb_e hi) (by show (arrV _ _ _).slots[_]? = _; rw [arrV_read _ _ (inb_lt hi)]; rfl) rfl rfl hdg (kk (hH.2.2.2 o ci k n _ h1 h2 (inb_lt hi)))
theorem g_alen (X : gX p s m args meth c y cc nL ry own G) (hH : gH G σ H) {o k n : Nat} (ha : gvA G o k 4 n) (hdg : decode cc pc = .ok (.arraylength, 1))
    (kk : W p l e R s m args below meth c H locs cells slots Q (F0 m (pc + 1) ls (.int (Int32.ofNat n) :: rest))) : W p l e R s m args below meth c H locs cells slots Q (F0 m pc ls (.ref (gad G o (k + 1)) :: rest)) := by
  obtain ⟨ci, h1, h2⟩ := ha
  have hcell : H[gad G o (k + 1)]? = some (arrV (gca G 4) n (fun j => .int (mA σ o k j))) := hH.2.1 o ci k (4, n) h1 h2 (show 4 ≤ 4 by decide)
  exact W.alen (n := Int32.ofNat n) X.hx X.hb hcell ((X.hK.1.2 0 (gca G 4, .int) rfl).1 n (fun j => .int (mA σ o k j))) (by show (arrV _ _ _).slots.size.toInt32 = _; rw [arrV_size] <;> rfl) rfl rfl hdg kk
/-- an array is written -/
theorem g_astV (X : gX p s m args meth c y cc nL ry own G) (hH : gH G σ H) (hS0 : va_S (gAA G) H0 H locs) {o k t n ci : Nat} (h1 : gsh G o = some ci) (h2 : (kd ci)[k]? = some (t, n)) (h4 : 4 ≤ t) {σ' : Mem} {H1 : Heap} {j : Nat} (hcell : H1[gad G o (k + 1)]? = some (vp_cell (gca G t) (gC (gad G) σ' o k (t, n)))) (hz : H1.size = H.size) (oq : ∀ q, q ≠ gad G o (k + 1) → H1[q]? = H[q]?) (hV : ∀ o' k' q, gV (gad G) σ' o' k' q = gV (gad G) σ o' k' q) (hoth : ∀ o' k', (o', k') ≠ (o, k) → ∀ q, gC (gad G) σ' o' k' q = gC (gad G) σ o' k' q) (hP : mP σ' = mP σ) (hE : mE σ' = mE σ) : gH G σ' H1 ∧ va_S (gAA G) H0 H1 (locs ++ [⟨gad G o (k + 1), j⟩]) := by
  refine ⟨⟨fun o' ci' ho' => ?_, fun o' ci' k' q' ho' hq' h4' => ?_, fun o' ci' k' c' ho' hq' => by rw [hP]; exact hH.2.2.1 o' ci' k' c' ho' hq', fun o' ci' k' n' i' ho' hq' hi' => by rw [hE]; exact hH.2.2.2 o' ci' k' n' i' ho' hq' hi'⟩, hS0.put hz oq (X.hD.2 o (k + 1) (gv_a h1 h2 h4))⟩
  · obtain ⟨r', g1, g2⟩ := hH.1 o' ci' ho'
    exact ⟨r', g1, (g2.kept (oq _ (fun e => absurd (X.hD.1 o' 0 o (k + 1) (gv_o ho') (gv_a h1 h2 h4) e).2 (Nat.succ_ne_zero k).symm))).to (fun j _ => (hV o' j _).symm)⟩
  · by_cases he : (o', k') = (o, k)
    · obtain ⟨rfl, rfl⟩ := Prod.mk.inj he
      cases h1.symm.trans ho'
      cases h2.symm.trans hq'
      exact hcell
    · rw [hoth o' k' he q', oq _ (fun e => he (by obtain ⟨e1, e2⟩ := X.hD.1 o' (k' + 1) o (k + 1) (gv_a ho' hq' h4') (gv_a h1 h2 h4) e; rw [e1, Nat.succ.inj e2]))]
      exact hH.2.1 o' ci' k' q' ho' hq' h4'
theorem gC_A {ad : Nat → Nat → Nat} {σ : Mem} {o k i : Nat} {x : Int32} {o' k' : Nat} (h : (o', k') ≠ (o, k)) (q : Nat × Nat) : gC ad (sA σ o k i x) o' k' q = gC ad σ o' k' q := by
  unfold gC
  rw [show mA (sA σ o k i x) o' k' = mA σ o' k' from up2_ne h]
  rfl
theorem gC_B {ad : Nat → Nat → Nat} {σ : Mem} {o k i : Nat} {x : Int64} {o' k' : Nat} (h : (o', k') ≠ (o, k)) (q : Nat × Nat) : gC ad (sB σ o k i x) o' k' q = gC ad σ o' k' q := by
  unfold gC
  rw [show mB (sB σ o k i x) o' k' = mB σ o' k' from up2_ne h]
  rfl
theorem mA_sA {σ : Mem} {o k i : Nat} {x : Int32} : mA (sA σ o k i x) o k = upd (mA σ o k) i x := up2_eq
theorem mB_sB {σ : Mem} {o k i : Nat} {x : Int64} : mB (sB σ o k i x) o k = vp_updL (mB σ o k) i x := up2_eq
theorem g_iast (X : gX p s m args meth c y cc nL ry own G) (hH : gH G σ H) (hS0 : va_S (gAA G) H0 H locs) {o k n : Nat} (ha : gvA G o k 4 n) {i x : Int32} (hi : inb i n = true) (hdg : decode cc pc = .ok (.iastore, 1))
    (kk : ∀ (H1 : Heap) (locs1 : List Loc), gH G (sA σ o k i.toNatClampNeg x) H1 → va_S (gAA G) H0 H1 locs1 → W p l e R s m args below meth c H1 locs1 cells slots Q (F0 m (pc + 1) ls rest)) : W p l e R s m args below meth c H locs cells slots Q (F0 m pc ls (.int x :: .int i :: .ref (gad G o (k + 1)) :: rest)) := by
  obtain ⟨ci, h1, h2⟩ := ha
  have hcell : H[gad G o (k + 1)]? = some (arrV (gca G 4) n (fun j => .int (mA σ o k j))) := hH.2.1 o ci k (4, n) h1 h2 (show 4 ≤ 4 by decide)
  refine W.iast X.hx X.hb hcell ((X.hK.1.2 0 (gca G 4, .int) rfl).1 n (fun j => .int (mA σ o k j))) (fun q => by cases q) (by show ¬ (i < 0 ∨ (arrV _ _ _).slots.size ≤ _); rw [arrV_size]; exact inb_e hi) rfl rfl hdg fun H1 e z oq => ?_
  obtain ⟨g1, g2⟩ := g_astV X hH hS0 h1 h2 (Nat.le_refl 4) (σ' := sA σ o k i.toNatClampNeg x) (j := i.toNatClampNeg) (by
    rw [e]
    show some ((arrV (gca G 4) n _).setSlot _ _) = some (arrV (gca G 4) n (fun j => .int (mA (sA σ o k i.toNatClampNeg x) o k j)))
    rw [arrV_store, mA_sA]
    congr 2
    funext q
    by_cases hq : q = i.toNatClampNeg
    · subst hq
      simp [updV, upd]
    · simp [updV, upd, hq]) z oq (fun _ _ _ => rfl) (fun o' k' h q => gC_A h q) rfl rfl
  exact kk H1 _ g1 g2
theorem g_zast (X : gX p s m args meth c y cc nL ry own G) (hH : gH G σ H) (hS0 : va_S (gAA G) H0 H locs) {o k n : Nat} (ha : gvA G o k 5 n) {i x : Int32} (hx : narrow .boolean (.int x) = .int x) (hi : inb i n = true) (hdg : decode cc pc = .ok (.bastore, 1))
    (kk : ∀ (H1 : Heap) (locs1 : List Loc), gH G (sA σ o k i.toNatClampNeg x) H1 → va_S (gAA G) H0 H1 locs1 → W p l e R s m args below meth c H1 locs1 cells slots Q (F0 m (pc + 1) ls rest)) : W p l e R s m args below meth c H locs cells slots Q (F0 m pc ls (.int x :: .int i :: .ref (gad G o (k + 1)) :: rest)) := by
  obtain ⟨ci, h1, h2⟩ := ha
  have hcell : H[gad G o (k + 1)]? = some (arrV (gca G 5) n (fun j => .int (mA σ o k j))) := hH.2.1 o ci k (5, n) h1 h2 (show 4 ≤ 5 by decide)
  refine W.zast X.hx X.hb hcell ((X.hK.1.2 1 (gca G 5, .boolean) rfl).1 n (fun j => .int (mA σ o k j))) (fun q => by cases q) (by show ¬ (i < 0 ∨ (arrV _ _ _).slots.size ≤ _); rw [arrV_size]; exact inb_e hi) rfl rfl hdg fun H1 e z oq => ?_
  obtain ⟨g1, g2⟩ := g_astV X hH hS0 h1 h2 (show 4 ≤ 5 by decide) (σ' := sA σ o k i.toNatClampNeg x) (j := i.toNatClampNeg) (by
    rw [e, hx]
    show some ((arrV (gca G 5) n _).setSlot _ _) = some (arrV (gca G 5) n (fun j => .int (mA (sA σ o k i.toNatClampNeg x) o k j)))
    rw [arrV_store, mA_sA]
    congr 2
    funext q
    by_cases hq : q = i.toNatClampNeg
    · subst hq
      simp [updV, upd]
    · simp [updV, upd, hq]) z oq (fun _ _ _ => rfl) (fun o' k' h q => gC_A h q) rfl rfl
  exact kk H1 _ g1 g2
theorem g_last (X : gX p s m args meth c y cc nL ry own G) (hH : gH G σ H) (hS0 : va_S (gAA G) H0 H locs) {o k n : Nat} (ha : gvA G o k 6 n) {i : Int32} {x : Int64} (hi : inb i n = true) (hdg : decode cc pc = .ok (.lastore, 1))
    (kk : ∀ (H1 : Heap) (locs1 : List Loc), gH G (sB σ o k i.toNatClampNeg x) H1 → va_S (gAA G) H0 H1 locs1 → W p l e R s m args below meth c H1 locs1 cells slots Q (F0 m (pc + 1) ls rest)) : W p l e R s m args below meth c H locs cells slots Q (F0 m pc ls (.long x :: .int i :: .ref (gad G o (k + 1)) :: rest)) := by
  obtain ⟨ci, h1, h2⟩ := ha
  have hcell : H[gad G o (k + 1)]? = some (arrV (gca G 6) n (fun j => .long (mB σ o k j))) := hH.2.1 o ci k (6, n) h1 h2 (show 4 ≤ 6 by decide)
  refine W.last X.hx X.hb hcell ((X.hK.1.2 2 (gca G 6, .long) rfl).1 n (fun j => .long (mB σ o k j))) (fun q => by cases q) (by show ¬ (i < 0 ∨ (arrV _ _ _).slots.size ≤ _); rw [arrV_size]; exact inb_e hi) rfl rfl hdg fun H1 e z oq => ?_
  obtain ⟨g1, g2⟩ := g_astV X hH hS0 h1 h2 (show 4 ≤ 6 by decide) (σ' := sB σ o k i.toNatClampNeg x) (j := i.toNatClampNeg) (by
    rw [e]
    show some ((arrV (gca G 6) n _).setSlot _ _) = some (arrV (gca G 6) n (fun j => .long (mB (sB σ o k i.toNatClampNeg x) o k j)))
    rw [arrV_store, mB_sB]
    congr 2
    funext q
    by_cases hq : q = i.toNatClampNeg
    · subst hq
      simp [updV, vp_updL]
    · simp [updV, vp_updL, hq]) z oq (fun _ _ _ => rfl) (fun o' k' h q => gC_B h q) rfl rfl
  exact kk H1 _ g1 g2
/-- calls -/
theorem g_ret {σ' : Mem} {ov : Option Value} {a : Array Value} {st0 : List Value} {H1' : Heap} (hr : va_Run p l e R s m args below meth c H locs cells slots 0 0 (F0 m pc ls st0) rest (cQ G ov σ' a) (gAA G)) (hS : va_S (gAA G) H0 H locs)
    (kk : ∀ (H1 : Heap) (locs1 : List Loc), gH G σ' H1 → va_S (gAA G) H0 H1 locs1 → W p l e R s m args below meth c H1 locs1 cells slots Q (F0 m (pc + 3) ls (ov.toList ++ rest))) : W p l e R s m args below meth c H locs cells slots Q (F0 m pc ls st0) := by
  intro T hT X
  obtain ⟨v, st₀, t, T', L, h0, X', hL, e1, e2, ⟨hv, hb, hz, hk⟩, st⟩ := hr T hT X
  cases hv
  rw [h0] at hz hk
  obtain ⟨t2, a1, b1⟩ := kk T'.heap (locs ++ L) (by rw [e1]; exact hb)
    ⟨Nat.le_trans hS.1 (by rw [e1]; exact hz), fun q h1 h2 => by rw [e1, hk q (Nat.lt_of_lt_of_le h1 hS.1) h2]; exact hS.2.1 q h1 h2, fun q hq => by
      rcases List.mem_append.mp hq with h | h
      · exact hS.2.2 q h
      · exact hL q h⟩ T' rfl X'
  exact ⟨t2, st t2 a1, b1⟩
theorem g_pre (X : gX p s m args meth c y cc nL ry own G) (hH : gH G σ H) (av : List Value) : ∀ U : State, U.heap = H → s.WarmedH U.vm → cP G σ av av.toArray U := fun U hU hW => ⟨rfl, X.hD, X.hK.warm hW, by rw [hU]; exact hH⟩
theorem g_recv (X : gX p s m args meth c y cc nL ry own G) (hH : gH G σ H) {o ci : Nat} (ho : gsh G o = some ci) {C : String} {T : u_T} {N : Nat} (hc : vwCl[ci]? = some (C, T, N)) : ∃ cellB : Cell, H[gad G o 0]? = some cellB ∧ cellB.vm.isStatics = false ∧ s.vm.findClass C = some cellB.cls := by
  obtain ⟨r, h1, cell, q1, q2, q3, q4⟩ := hH.1 o ci ho
  exact ⟨cell, q1, by rw [q3]; rfl, by rw [q2]; exact (X.hK.1.1 ci _ hc).2.1⟩
theorem g_callV (X : gX p s m args meth c y cc nL ry own G) {y2 : MethodName} {c2 : ByteArray} {n2 : Nat} {r2 : Option FieldType} {fr lo idx na ci o : Nat} {As : List Value} {ov : Option Value} {σ' : Mem} (hM : CM l y2 c2 n2 r2 fr lo G σ (.ref (gad G o 0) :: As) ov σ') {C : String} {T : u_T} {N : Nat} (hc : vwCl[ci]? = some (C, T, N)) (ho : gsh G o = some ci)
    (hw : Cond.code y2 c2 n2 r2 ∈ LW ∧ Cond.methodLink own idx y2 ∈ LW ∧ Cond.instanceMethod y2 ∈ LW ∧ Cond.selects C y2 y2 ∈ LW ∧ Cond.initialized C ∈ LW) (hd : y2.cls = C ∧ y2.cls ≠ "java/lang/invoke/MethodHandle" ∧ y2.cls ≠ "java/lang/invoke/VarHandle" ∧ (parseMethodDescriptor y2.desc).map (fun d => d.parameters.length) = some na) (hR : fr + 1 ≤ R.frames ∧ 8 + (n2 + 11) + lo ≤ R.locals) (hH : gH G σ H) (hS : va_S (gAA G) H0 H locs) {lv : List (Nat × Value)} (hl : lv_has ls nL lv) {st0 : List Value} (hst : st0 = As.reverse ++ .ref (gad G o 0) :: rest) (hn : As.length = na) (hrm : (rest.map fun v => v.category).sum ≤ 8) (hf : cells ≤ R.cells ∧ slots ≤ R.slots) (hdg : decode cc pc = .ok (.invokevirtual idx, 3))
    (kk : ∀ (H1 : Heap) (locs1 : List Loc), gH G σ' H1 → va_S (gAA G) H0 H1 locs1 → W p l e R s m args below meth c H1 locs1 cells slots Q (F0 m (pc + 3) ls (ov.toList ++ rest))) : W p l e R s m args below meth c H locs cells slots Q (F0 m pc ls st0) :=
  g_ret (H1' := H) (va_runV (As := As) (rest := rest) (b := gad G o 0) ⟨X.hx, X.hb, X.hml, X.hown, X.hts⟩ hM (cwV na X.hts (wm_goodV hw.1 hw.2.1 hw.2.2.1 hw.2.2.2.1 hw.2.2.2.2) rfl rfl rfl hd hR) ⟨cP.blind G σ _, g_recv X hH ho hc, g_pre X hH _⟩ rfl hn hl.1 hst (lv_room hrm) hdg hf) hS kk
theorem g_callS (X : gX p s m args meth c y cc nL ry own G) {y2 : MethodName} {c2 : ByteArray} {n2 : Nat} {r2 : Option FieldType} {fr lo idx na : Nat} {As : List Value} {ov : Option Value} {σ' : Mem} (hM : CM l y2 c2 n2 r2 fr lo G σ As ov σ')
    (hw : Cond.code y2 c2 n2 r2 ∈ LW ∧ Cond.methodLink own idx y2 ∈ LW ∧ Cond.static y2 ∈ LW ∧ Cond.initialized y2.cls ∈ LW) (hd : y2.cls ≠ "java/lang/invoke/MethodHandle" ∧ y2.cls ≠ "java/lang/invoke/VarHandle" ∧ (parseMethodDescriptor y2.desc).map (fun d => d.parameters.length) = some na) (hR : fr + 1 ≤ R.frames ∧ 8 + (n2 + 11) + lo ≤ R.locals) (hH : gH G σ H) (hS : va_S (gAA G) H0 H locs) {lv : List (Nat × Value)} (hl : lv_has ls nL lv) {st0 : List Value} (hst : st0 = As.reverse ++ rest) (hn : As.length = na) (hrm : (rest.map fun v => v.category).sum ≤ 8) (hf : cells ≤ R.cells ∧ slots ≤ R.slots) (hdg : decode cc pc = .ok (.invokestatic idx, 3))
    (kk : ∀ (H1 : Heap) (locs1 : List Loc), gH G σ' H1 → va_S (gAA G) H0 H1 locs1 → W p l e R s m args below meth c H1 locs1 cells slots Q (F0 m (pc + 3) ls (ov.toList ++ rest))) : W p l e R s m args below meth c H locs cells slots Q (F0 m pc ls st0) :=
  g_ret (H1' := H) (va_runS (As := As) (rest := rest) ⟨X.hx, X.hb, X.hml, X.hown, X.hts⟩ hM ⟨callB_of na X.hts (wm_good hw.1) rfl rfl rfl (X.w hw.2.2.2) (X.w hw.2.1) hd hR, X.w hw.2.2.1⟩ ⟨cP.blind G σ _, g_pre X hH _⟩ rfl hn hl.1 hst (lv_room hrm) hdg hf) hS kk
theorem g_callSN (X : gX p s m args meth c y cc nL ry own G) {y2 : MethodName} {c2 : ByteArray} {n2 : Nat} {r2 : Option FieldType} {fr lo idx na : Nat} {host : String} {As : List Value} {ov : Option Value} {σ' : Mem} (hM : CM l y2 c2 n2 r2 fr lo G σ As ov σ') (hnw : va_Nw (.methodLinkNest own idx y2 host) s)
    (hw : Cond.code y2 c2 n2 r2 ∈ LW ∧ Cond.static y2 ∈ LW ∧ Cond.initialized y2.cls ∈ LW) (hd : y2.cls ≠ "java/lang/invoke/MethodHandle" ∧ y2.cls ≠ "java/lang/invoke/VarHandle" ∧ (parseMethodDescriptor y2.desc).map (fun d => d.parameters.length) = some na) (hR : fr + 1 ≤ R.frames ∧ 8 + (n2 + 11) + lo ≤ R.locals) (hH : gH G σ H) (hS : va_S (gAA G) H0 H locs) {lv : List (Nat × Value)} (hl : lv_has ls nL lv) {st0 : List Value} (hst : st0 = As.reverse ++ rest) (hn : As.length = na) (hrm : (rest.map fun v => v.category).sum ≤ 8) (hf : cells ≤ R.cells ∧ slots ≤ R.slots) (hdg : decode cc pc = .ok (.invokestatic idx, 3))
    (kk : ∀ (H1 : Heap) (locs1 : List Loc), gH G σ' H1 → va_S (gAA G) H0 H1 locs1 → W p l e R s m args below meth c H1 locs1 cells slots Q (F0 m (pc + 3) ls (ov.toList ++ rest))) : W p l e R s m args below meth c H locs cells slots Q (F0 m pc ls st0) :=
  g_ret (H1' := H) (va_runSN (As := As) (rest := rest) ⟨X.hx, X.hb, X.hml, X.hown, X.hts⟩ hM ⟨va_cnB na X.hts (wm_good hw.1) rfl rfl rfl hnw (X.w hw.2.2) hd hR, X.w hw.2.1, trivial⟩ ⟨cP.blind G σ _, g_pre X hH _⟩ rfl hn hl.1 hst (lv_room hrm) hdg hf) hS kk
/-- ends -/
theorem g_iret (X : gX p s m args meth c y cc nL ry own G) (hH : gH G σ H) (hS : va_S (gAA G) s.heap H locs) (hry : ry = some .int) {v v' : Int32} (hv : v = v') (hdg : decode cc pc = .ok (.ireturn, 1)) : W p l e R s m args below meth c H locs cells slots (MQ below (cQ G (some (.int v')) σ) args s cells slots (gAA G)) (F0 m pc ls [.int v]) := by
  subst hv
  have hlocks := X.hlk
  exact W.iret X.hx X.hb (by rw [X.hr, hry]) (fun t ht hW => ⟨rfl, by rw [ht]; exact hH, hS.F ht⟩) hS.2.2 hdg
theorem g_zret (X : gX p s m args meth c y cc nL ry own G) (hH : gH G σ H) (hS : va_S (gAA G) s.heap H locs) (hry : ry = some .boolean) {v v' : Int32} (hv : v = v') (hz : v = 0 ∨ v = 1) (hdg : decode cc pc = .ok (.ireturn, 1)) : W p l e R s m args below meth c H locs cells slots (MQ below (cQ G (some (.int v')) σ) args s cells slots (gAA G)) (F0 m pc ls [.int v]) := by
  subst hv
  have hlocks := X.hlk
  exact W.zret (ty := .boolean) X.hx X.hb (by rw [X.hr, hry]) (by rcases hz with e | e <;> subst e <;> rfl) (fun t ht hW => ⟨rfl, by rw [ht]; exact hH, hS.F ht⟩) hS.2.2 hdg
theorem g_lret (X : gX p s m args meth c y cc nL ry own G) (hH : gH G σ H) (hS : va_S (gAA G) s.heap H locs) (hry : ry = some .long) {v v' : Int64} (hv : v = v') (hdg : decode cc pc = .ok (.lreturn, 1)) : W p l e R s m args below meth c H locs cells slots (MQ below (cQ G (some (.long v')) σ) args s cells slots (gAA G)) (F0 m pc ls [.long v]) := by
  subst hv
  have hlocks := X.hlk
  exact W.lret X.hx X.hb (by rw [X.hr, hry]) (fun t ht hW => ⟨rfl, by rw [ht]; exact hH, hS.F ht⟩) hS.2.2 hdg
theorem g_vret (X : gX p s m args meth c y cc nL ry own G) (hH : gH G σ H) (hS : va_S (gAA G) s.heap H locs) (hry : ry = none) (hdg : decode cc pc = .ok (.return_, 1)) : W p l e R s m args below meth c H locs cells slots (MQ below (cQ G none σ) args s cells slots (gAA G)) (F0 m pc ls []) := by
  have hlocks := X.hlk
  exact W.vret X.hx X.hb (by rw [X.hr, hry]) (fun t ht hW => ⟨rfl, by rw [ht]; exact hH, hS.F ht⟩) hS.2.2 hdg
end GR
/-- a contract out of the walk of its body -/
theorem CM.of {l : Launch} {y : MethodName} {cc : ByteArray} {n : Nat} {r : Option FieldType} {fr lo : Nat} {G : gG} {σ σ' : Mem} {av : List Value} {ov : Option Value} (hy : plainName y.cls = true) (hav : (lg_sl av).length ≤ n)
    (body : ∀ (p : Program) (e : Env) (s : State) (m : MethodId) (below : List Frame) (meth : Method) (c : Code) (ls : Array Slot), gX p s m av.toArray meth c y cc n r y.cls G → gH G σ s.heap → lv_has ls n (lv_args 0 av) → W p l e (rmr fr lo) s m av.toArray below meth c s.heap [] 0 0 (MQ below (cQ G ov σ') av.toArray s 0 0 (gAA G)) (F0 m 0 ls [])) : CM l y cc n r fr lo G σ av ov σ' := by
  refine Met.ofW (cc := cc) (maxL := n) (ret := r) hy rfl ?_
  intro p e s m args below meth c s₁ B hml hv
  obtain ⟨rfl, hD, hK, hH⟩ := hv
  have hl := lv_entry av (n := n) hav
  rw [lg_entry_eq]
  exact body p e s m below meth c _ ⟨B.exec, B.bytes, hml, findClass_of_methodNamed B.named, atoms_spec (ws := wm y cc n r) B.pre, B.notSynchronized, B.returns, hD, hK⟩ hH hl
