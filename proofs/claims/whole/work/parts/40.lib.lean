/-! level 2: plain facts -/
theorem stp_s {α β : Type} {x : α} {k : α → β} : stp x k = k x := rfl
theorem bd_s {α β : Type} {a : α} {k : α → Option β} : bd (some a) k = k a := rfl
theorem bd2_s {α β γ : Type} {a : α} {b : β} {k : α → β → Option γ} : bd2 (some (a, b)) k = k a b := rfl
theorem gd_t {α : Type} {x : Option α} : gd true x = x := rfl
theorem inb_n {j n : Nat} (h : j < n) (hn : n < 2147483648) : inb (nI j) n = true := by
  unfold inb
  rw [nI_clamp (by omega), decide_eq_true (nI_pos' (by omega)), decide_eq_true h]
  rfl
theorem gd_in {α : Type} {x : Option α} {j n : Nat} (h : j < n) (hn : n < 2147483648) : gd (inb (nI j) n) x = x := by rw [inb_n h hn]; rfl
theorem clampN {n : Nat} (h : n < 2147483648) : (nI n).toNatClampNeg = n := nI_clamp h
theorem fa_lit (n : Nat) : (OfNat.ofNat n : Int32) = nI n := rfl
theorem l0 : (0 : Int32) = nI 0 := rfl
theorem l1 : (1 : Int32) = nI 1 := rfl
theorem ltN {a b : Nat} (ha : a < 2147483648) (hb : b < 2147483648) : (nI a < nI b) = (a < b) := propext (nI_ltI ha hb)
theorem leN {a b : Nat} (ha : a < 2147483648) (hb : b < 2147483648) : (nI a ≤ nI b) = (a ≤ b) := propext (nI_leI ha hb)
theorem eqN {a b : Nat} (ha : a < 2147483648) (hb : b < 2147483648) : (nI a = nI b) = (a = b) := propext (nI_eq ha hb)
theorem upd_e {f : Nat → Int32} {k j : Nat} {x : Int32} : upd f k x j = if j = k then x else f j := rfl
theorem updL_e {f : Nat → Int64} {k j : Nat} {x : Int64} : vp_updL f k x j = if j = k then x else f j := rfl
theorem mI_sI {σ : Mem} {o k : Nat} {v : Int32} {o' k' : Nat} : mI (sI σ o k v) o' k' = if o' = o ∧ k' = k then v else mI σ o' k' := rfl
theorem mI_sL {σ : Mem} {o k : Nat} {v : Int64} {o' k' : Nat} : mI (sL σ o k v) o' k' = mI σ o' k' := rfl
theorem mI_sP {σ : Mem} {o k : Nat} {v : Nat} {o' k' : Nat} : mI (sP σ o k v) o' k' = mI σ o' k' := rfl
theorem mI_sA {σ : Mem} {o k i : Nat} {v : Int32} {o' k' : Nat} : mI (sA σ o k i v) o' k' = mI σ o' k' := rfl
theorem mI_sB {σ : Mem} {o k i : Nat} {v : Int64} {o' k' : Nat} : mI (sB σ o k i v) o' k' = mI σ o' k' := rfl
theorem mL_sI {σ : Mem} {o k : Nat} {v : Int32} {o' k' : Nat} : mL (sI σ o k v) o' k' = mL σ o' k' := rfl
theorem mL_sL {σ : Mem} {o k : Nat} {v : Int64} {o' k' : Nat} : mL (sL σ o k v) o' k' = if o' = o ∧ k' = k then v else mL σ o' k' := rfl
theorem mL_sP {σ : Mem} {o k : Nat} {v : Nat} {o' k' : Nat} : mL (sP σ o k v) o' k' = mL σ o' k' := rfl
theorem mL_sA {σ : Mem} {o k i : Nat} {v : Int32} {o' k' : Nat} : mL (sA σ o k i v) o' k' = mL σ o' k' := rfl
theorem mL_sB {σ : Mem} {o k i : Nat} {v : Int64} {o' k' : Nat} : mL (sB σ o k i v) o' k' = mL σ o' k' := rfl
theorem mP_sI {σ : Mem} {o k : Nat} {v : Int32} {o' k' : Nat} : mP (sI σ o k v) o' k' = mP σ o' k' := rfl
theorem mP_sL {σ : Mem} {o k : Nat} {v : Int64} {o' k' : Nat} : mP (sL σ o k v) o' k' = mP σ o' k' := rfl
theorem mP_sP {σ : Mem} {o k : Nat} {v : Nat} {o' k' : Nat} : mP (sP σ o k v) o' k' = if o' = o ∧ k' = k then v else mP σ o' k' := rfl
theorem mP_sA {σ : Mem} {o k i : Nat} {v : Int32} {o' k' : Nat} : mP (sA σ o k i v) o' k' = mP σ o' k' := rfl
theorem mP_sB {σ : Mem} {o k i : Nat} {v : Int64} {o' k' : Nat} : mP (sB σ o k i v) o' k' = mP σ o' k' := rfl
theorem mA_sI {σ : Mem} {o k : Nat} {v : Int32} {o' k' : Nat} : mA (sI σ o k v) o' k' = mA σ o' k' := rfl
theorem mA_sL {σ : Mem} {o k : Nat} {v : Int64} {o' k' : Nat} : mA (sL σ o k v) o' k' = mA σ o' k' := rfl
theorem mA_sP {σ : Mem} {o k : Nat} {v : Nat} {o' k' : Nat} : mA (sP σ o k v) o' k' = mA σ o' k' := rfl
theorem mA_sAg {σ : Mem} {o k i : Nat} {v : Int32} {o' k' : Nat} : mA (sA σ o k i v) o' k' = if o' = o ∧ k' = k then upd (mA σ o k) i v else mA σ o' k' := rfl
theorem mA_sB {σ : Mem} {o k i : Nat} {v : Int64} {o' k' : Nat} : mA (sB σ o k i v) o' k' = mA σ o' k' := rfl
theorem mB_sI {σ : Mem} {o k : Nat} {v : Int32} {o' k' : Nat} : mB (sI σ o k v) o' k' = mB σ o' k' := rfl
theorem mB_sL {σ : Mem} {o k : Nat} {v : Int64} {o' k' : Nat} : mB (sL σ o k v) o' k' = mB σ o' k' := rfl
theorem mB_sP {σ : Mem} {o k : Nat} {v : Nat} {o' k' : Nat} : mB (sP σ o k v) o' k' = mB σ o' k' := rfl
theorem mB_sA {σ : Mem} {o k i : Nat} {v : Int32} {o' k' : Nat} : mB (sA σ o k i v) o' k' = mB σ o' k' := rfl
theorem mB_sBg {σ : Mem} {o k i : Nat} {v : Int64} {o' k' : Nat} : mB (sB σ o k i v) o' k' = if o' = o ∧ k' = k then vp_updL (mB σ o k) i v else mB σ o' k' := rfl
theorem mE_sI {σ : Mem} {o k : Nat} {v : Int32} {o' k' : Nat} : mE (sI σ o k v) o' k' = mE σ o' k' := rfl
theorem mE_sL {σ : Mem} {o k : Nat} {v : Int64} {o' k' : Nat} : mE (sL σ o k v) o' k' = mE σ o' k' := rfl
theorem mE_sP {σ : Mem} {o k : Nat} {v : Nat} {o' k' : Nat} : mE (sP σ o k v) o' k' = mE σ o' k' := rfl
theorem mE_sA {σ : Mem} {o k i : Nat} {v : Int32} {o' k' : Nat} : mE (sA σ o k i v) o' k' = mE σ o' k' := rfl
theorem mE_sB {σ : Mem} {o k i : Nat} {v : Int64} {o' k' : Nat} : mE (sB σ o k i v) o' k' = mE σ o' k' := rfl
/-! sets of up to six as bits -/
def b2n (b : Bool) : Nat := if b = true then 1 else 0
def bs6 (b : Nat → Bool) : Nat := b2n (b 0) + 2 * b2n (b 1) + 4 * b2n (b 2) + 8 * b2n (b 3) + 16 * b2n (b 4) + 32 * b2n (b 5)
def ct6 (b : Nat → Bool) : Nat := b2n (b 0) + b2n (b 1) + b2n (b 2) + b2n (b 3) + b2n (b 4) + b2n (b 5)
def bf (b0 b1 b2 b3 b4 b5 : Bool) : Nat → Bool
  | 0 => b0
  | 1 => b1
  | 2 => b2
  | 3 => b3
  | 4 => b4
  | 5 => b5
  | _ => false
theorem bs6_f (b : Nat → Bool) : bs6 b = bs6 (bf (b 0) (b 1) (b 2) (b 3) (b 4) (b 5)) := rfl
theorem ct6_f (b : Nat → Bool) : ct6 b = ct6 (bf (b 0) (b 1) (b 2) (b 3) (b 4) (b 5)) := rfl
theorem bf_at (b : Nat → Bool) {t : Nat} (h : t < 6) : bf (b 0) (b 1) (b 2) (b 3) (b 4) (b 5) t = b t := by
  match t, h with
  | 0, _ => rfl
  | 1, _ => rfl
  | 2, _ => rfl
  | 3, _ => rfl
  | 4, _ => rfl
  | 5, _ => rfl
  | n + 6, h => exact absurd h (by omega)
theorem bs6_c {b c : Nat → Bool} (h : ∀ t, t < 6 → b t = c t) : bs6 b = bs6 c := by
  unfold bs6
  rw [h 0 (by decide), h 1 (by decide), h 2 (by decide), h 3 (by decide), h 4 (by decide), h 5 (by decide)]
theorem ct6_c {b c : Nat → Bool} (h : ∀ t, t < 6 → b t = c t) : ct6 b = ct6 c := by
  unfold ct6
  rw [h 0 (by decide), h 1 (by decide), h 2 (by decide), h 3 (by decide), h 4 (by decide), h 5 (by decide)]
theorem b2n_le (b : Bool) : b2n b ≤ 1 := by cases b <;> decide
theorem bs6_lt (b : Nat → Bool) : bs6 b < 64 := by
  unfold bs6
  have h0 := b2n_le (b 0); have h1 := b2n_le (b 1); have h2 := b2n_le (b 2); have h3 := b2n_le (b 3); have h4 := b2n_le (b 4); have h5 := b2n_le (b 5)
  omega
theorem ct6_le (b : Nat → Bool) : ct6 b ≤ 6 := by
  unfold ct6
  have h0 := b2n_le (b 0); have h1 := b2n_le (b 1); have h2 := b2n_le (b 2); have h3 := b2n_le (b 3); have h4 := b2n_le (b 4); have h5 := b2n_le (b 5)
  omega
theorem bs6_bit_k : ∀ (b0 b1 b2 b3 b4 b5 : Bool) (t : Fin 6), (nI (bs6 (bf b0 b1 b2 b3 b4 b5)) >>> (nI t.val &&& 31)) &&& 1 = if bf b0 b1 b2 b3 b4 b5 t.val = true then 1 else 0 := by decide +kernel
theorem bs6_bit (b : Nat → Bool) {t : Nat} (h : t < 6) : (nI (bs6 b) >>> (nI t &&& 31)) &&& 1 = if b t = true then 1 else 0 := by
  rw [bs6_f, bs6_bit_k _ _ _ _ _ _ ⟨t, h⟩, bf_at b h]
theorem bs6_or_k : ∀ (b0 b1 b2 b3 b4 b5 : Bool) (t : Fin 6), nI (bs6 (bf b0 b1 b2 b3 b4 b5)) ||| ((1 : Int32) <<< (nI t.val &&& 31)) = nI (bs6 (fun j => bf b0 b1 b2 b3 b4 b5 j || decide (j = t.val))) := by decide +kernel
theorem bs6_or (b : Nat → Bool) {t : Nat} (h : t < 6) : nI (bs6 b) ||| ((1 : Int32) <<< (nI t &&& 31)) = nI (bs6 (fun j => b j || decide (j = t))) := by
  rw [bs6_f, bs6_or_k _ _ _ _ _ _ ⟨t, h⟩]
  exact congrArg nI (bs6_c (fun j hj => by rw [bf_at b hj]))
theorem bs6_an_k : ∀ (b0 b1 b2 b3 b4 b5 : Bool) (t : Fin 6), nI (bs6 (bf b0 b1 b2 b3 b4 b5)) &&& (((1 : Int32) <<< (nI t.val &&& 31)) ^^^ (-1 : Int32)) = nI (bs6 (fun j => bf b0 b1 b2 b3 b4 b5 j && !decide (j = t.val))) := by decide +kernel
theorem bs6_an (b : Nat → Bool) {t : Nat} (h : t < 6) : nI (bs6 b) &&& (((1 : Int32) <<< (nI t &&& 31)) ^^^ (-1 : Int32)) = nI (bs6 (fun j => b j && !decide (j = t))) := by
  rw [bs6_f, bs6_an_k _ _ _ _ _ _ ⟨t, h⟩]
  exact congrArg nI (bs6_c (fun j hj => by rw [bf_at b hj]))
theorem bs6_oo_k : ∀ (b0 b1 b2 b3 b4 b5 : Bool) (c0 c1 c2 c3 c4 c5 : Bool), nI (bs6 (bf b0 b1 b2 b3 b4 b5)) ||| nI (bs6 (bf c0 c1 c2 c3 c4 c5)) = nI (bs6 (fun j => bf b0 b1 b2 b3 b4 b5 j || bf c0 c1 c2 c3 c4 c5 j)) := by decide +kernel
theorem bs6_oo (b c : Nat → Bool) : nI (bs6 b) ||| nI (bs6 c) = nI (bs6 (fun j => b j || c j)) := by
  rw [bs6_f b, bs6_f c, bs6_oo_k]
  exact congrArg nI (bs6_c (fun j hj => by rw [bf_at b hj, bf_at c hj]))
theorem bs6_ct_k : ∀ (b0 b1 b2 b3 b4 b5 : Bool), fJ6_bitCount_0f7a4 (nI (bs6 (bf b0 b1 b2 b3 b4 b5))) = some (nI (ct6 (bf b0 b1 b2 b3 b4 b5))) := by decide +kernel
theorem bs6_ct (b : Nat → Bool) : fJ6_bitCount_0f7a4 (nI (bs6 b)) = some (nI (ct6 b)) := by
  rw [bs6_f, bs6_ct_k, ← ct6_f]
theorem bs6_mb_k : ∀ (b0 b1 b2 b3 b4 b5 : Bool), fX6_bits (nI (bs6 (bf b0 b1 b2 b3 b4 b5))) = some (nI (ct6 (bf b0 b1 b2 b3 b4 b5))) := by decide +kernel
theorem bs6_mb (b : Nat → Bool) : fX6_bits (nI (bs6 b)) = some (nI (ct6 b)) := by
  rw [bs6_f, bs6_mb_k, ← ct6_f]
theorem bs6_0 : nI (bs6 (fun _ => false)) = 0 := by decide
theorem bs6_eq0_k : ∀ (b0 b1 b2 b3 b4 b5 : Bool), bs6 (bf b0 b1 b2 b3 b4 b5) = 0 ↔ ct6 (bf b0 b1 b2 b3 b4 b5) = 0 := by decide +kernel
theorem bs6_eq0 (b : Nat → Bool) : bs6 b = 0 ↔ ct6 b = 0 := by rw [bs6_f, bs6_eq0_k, ← ct6_f]
theorem ofN (n : Nat) : Int32.ofNat n = nI n := rfl
theorem bs6_bitN (b : Nat → Bool) {t : Nat} (h : t < 6) : (nI (bs6 b) >>> (nI t &&& nI 31)) &&& nI 1 = if b t = true then nI 1 else nI 0 := bs6_bit b h
theorem bs6_orN (b : Nat → Bool) {t : Nat} (h : t < 6) : nI (bs6 b) ||| (nI 1 <<< (nI t &&& nI 31)) = nI (bs6 (fun j => b j || decide (j = t))) := bs6_or b h
theorem bs6_anN (b : Nat → Bool) {t : Nat} (h : t < 6) : nI (bs6 b) &&& ((nI 1 <<< (nI t &&& nI 31)) ^^^ (-nI 1)) = nI (bs6 (fun j => b j && !decide (j = t))) := bs6_an b h
theorem bs6_0N : nI 0 = nI (bs6 (fun _ => false)) := rfl
theorem exS {α : Type} {x : Option α} {P : α → Prop} {a : α} (h : x = some a) (p : P a) : ∃ a, x = some a ∧ P a := ⟨a, h, p⟩
theorem exS2 {α β : Type} {x : Option (α × β)} {r : α} {P : β → Prop} {a : β} (h : x = some (r, a)) (p : P a) : ∃ a, x = some (r, a) ∧ P a := ⟨a, h, p⟩
theorem iteE {α : Type} {a b : Nat} {x y : α} (ha : a < 2147483648) (hb : b < 2147483648) : (if nI a = nI b then x else y) = if a = b then x else y := by simp only [eqN ha hb]
theorem iteL {α : Type} {a b : Nat} {x y : α} (ha : a < 2147483648) (hb : b < 2147483648) : (if nI a < nI b then x else y) = if a < b then x else y := by simp only [ltN ha hb]
theorem iteLE {α : Type} {a b : Nat} {x y : α} (ha : a < 2147483648) (hb : b < 2147483648) : (if nI a ≤ nI b then x else y) = if a ≤ b then x else y := by simp only [leN ha hb]
theorem negI {k : Nat} (hk : k < 2147483648) : (-nI k).toInt = -(k : Int) := sb_negT hk
theorem eqNg {n k : Nat} (h0 : 0 < k) (hn : n < 2147483648) (hk : k < 2147483648) : (nI n = -nI k) = False := by
  refine propext ⟨fun e => ?_, False.elim⟩
  have := congrArg Int32.toInt e
  rw [nI_toInt hn, negI hk] at this
  omega
theorem gNeq {n k : Nat} (h0 : 0 < k) (hn : n < 2147483648) (hk : k < 2147483648) : (-nI k = nI n) = False := by
  refine propext ⟨fun e => ?_, False.elim⟩
  have := congrArg Int32.toInt e
  rw [nI_toInt hn, negI hk] at this
  omega
theorem gNlt {n k : Nat} (h0 : 0 < k) (hn : n < 2147483648) (hk : k < 2147483648) : (-nI k < nI n) = True := by
  refine propext ⟨fun _ => trivial, fun _ => ?_⟩
  rw [Int32.lt_iff_toInt_lt, nI_toInt hn, negI hk]
  omega
theorem gNle {n k : Nat} (hn : n < 2147483648) (hk : k < 2147483648) : (-nI k ≤ nI n) = True := by
  refine propext ⟨fun _ => trivial, fun _ => ?_⟩
  rw [Int32.le_iff_toInt_le, nI_toInt hn, negI hk]
  omega
theorem ltNg {n k : Nat} (hn : n < 2147483648) (hk : k < 2147483648) : (nI n < -nI k) = False := by
  refine propext ⟨fun e => ?_, False.elim⟩
  rw [Int32.lt_iff_toInt_lt, nI_toInt hn, negI hk] at e
  omega
theorem leNg {n k : Nat} (h0 : 0 < k) (hn : n < 2147483648) (hk : k < 2147483648) : (nI n ≤ -nI k) = False := by
  refine propext ⟨fun e => ?_, False.elim⟩
  rw [Int32.le_iff_toInt_le, nI_toInt hn, negI hk] at e
  omega
theorem gg {a b : Nat} (ha : a < 2147483648) (hb : b < 2147483648) : (-nI a = -nI b) = (a = b) := by
  refine propext ⟨fun e => ?_, fun e => by rw [e]⟩
  have := congrArg Int32.toInt e
  rw [negI ha, negI hb] at this
  omega
theorem lZ {k : Nat} (hk : k < 1000000) : (nI 0 < nI k) = (0 < k) := ltN (by decide) (by omega)
