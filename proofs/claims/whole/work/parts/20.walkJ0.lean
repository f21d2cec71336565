set_option maxRecDepth 20000 in
set_option maxHeartbeats 4000000 in
theorem bJ7_fill_53178_5 {p : Program} {l : Launch} {e : Env} {s : State} {m : MethodId} {args : Array Value} {below : List Frame} {meth : Method} {c : Code} {G : gG} (X : gX p s m args meth c yJ7_fill_53178 cJ7_fill_53178 4 none RJ7 G)  {σ' : Mem} : (∀ (n : Nat) (σ : Mem) (a0 : Nat) (b0 : Nat) (n0 : Nat) (x1 : Int32) (x2 : Int32) (x3 : Int32), gvA G a0 b0 4 n0 → fJ7_fill_53178_5 n σ a0 b0 n0 x1 x2 x3 = some σ' → ∀ (H : Heap) (locs : List Loc) (ls : Array Slot), gH G σ H → va_S (gAA G) s.heap H locs → lv_has ls 4 [(0, .ref (gad G a0 (b0 + 1))), (1, .int x1), (2, .int x2), (3, .int x3)] → WB p l e 0 0 s m args below meth c G none σ' H locs (F0 m 5 ls [])) := by
  intro n
  induction n with
  | zero => intro σ a0 b0 n0 x1 x2 x3 ha0 hf H locs ls hH hS hl; exact nomatch (show (none : Option Mem) = some _ from hf)
  | succ n ih =>
    intro σ a0 b0 n0 x1 x2 x3 ha0 hf H locs ls hH hS hl
    rw [fJ7_fill_53178_5.eq_2] at hf
    refine lv_iload_n X.hx X.hb dJ7_fill_53178_5 rfl (lv_at hl 2 rfl) ?_
    refine lv_iload_n X.hx X.hb dJ7_fill_53178_6 rfl (lv_at hl 3 rfl) ?_
    refine lv_icmp_ge (tgt := 20) X.hx X.hb dJ7_fill_53178_7 (by decide) (fun c3 => ?_) (fun c3 => ?_)
    · have hf := it_p hf c3
      have e := so1 hf
      rw [e] at hH
      exact g_vret X hH hS rfl dJ7_fill_53178_20
    · have hf := it_n hf c3
      refine lv_aload_n X.hx X.hb dJ7_fill_53178_10 rfl (lv_at hl 0 rfl) ?_
      refine lv_iload_n X.hx X.hb dJ7_fill_53178_11 rfl (lv_at hl 2 rfl) ?_
      refine lv_iload_n X.hx X.hb dJ7_fill_53178_12 rfl (lv_at hl 1 rfl) ?_
      obtain ⟨hg, hf⟩ := gd_e hf
      refine g_iast X hH hS ha0 hg dJ7_fill_53178_13 (fun H locs hH hS => ?_)
      obtain ⟨σ4, he, hf⟩ := stp_e hf
      rw [← he] at hH
      clear he
      refine lv_iinc (v := x2 + 1) (lv' := [(2, .int (x2 + 1)), (0, .ref (gad G a0 (b0 + 1))), (1, .int x1), (3, .int x3)]) X.hx X.hb dJ7_fill_53178_14 hl (k := 2) rfl rfl (by decide) rfl (fun ls hl => ?_)
      refine lv_goto (tgt := 5) X.hx X.hb dJ7_fill_53178_17 (by decide) ?_
      exact ih _ _ _ _ _ _ _ ha0 hf _ _ _ hH hS (lv_sub hl [1, 2, 0, 3] rfl)
set_option maxRecDepth 20000 in
set_option maxHeartbeats 4000000 in
theorem kJ7_fill_53178 (l : Launch) {G : gG} {σ : Mem} {σ' : Mem} {a0 b0 n0 : Nat} {x1 : Int32} (ha0 : gvA G a0 b0 4 n0) (hf : fJ7_fill_53178 σ a0 b0 n0 x1 = some σ') : CM l yJ7_fill_53178 cJ7_fill_53178 4 none 0 0 G σ [.ref (gad G a0 (b0 + 1)), .int x1] none σ' := by
  refine CM.of (by decide) (Nat.le_of_ble_eq_true rfl) (fun p e s m below meth c ls X hH hl => ?_)
  have X : gX p s m _ meth c yJ7_fill_53178 cJ7_fill_53178 4 none RJ7 G := X
  have hS : va_S (gAA G) s.heap s.heap [] := va_S.rf
  have hl : lv_has ls 4 [(0, .ref (gad G a0 (b0 + 1))), (1, .int x1)] := hl
  rw [fJ7_fill_53178.eq_1] at hf
  refine lv_iconst (v := 0) X.hx X.hb dJ7_fill_53178_0 (by decide) ?_
  refine lv_istore_n (lv' := [(2, .int (0 : Int32)), (0, .ref (gad G a0 (b0 + 1))), (1, .int x1)]) X.hx X.hb dJ7_fill_53178_1 rfl hl (by decide) rfl (fun ls hl => ?_)
  refine lv_aload_n X.hx X.hb dJ7_fill_53178_2 rfl (lv_at hl 1 rfl) ?_
  refine g_alen X hH ha0 dJ7_fill_53178_3 ?_
  refine lv_istore_n (lv' := [(3, .int (Int32.ofNat n0)), (2, .int (0 : Int32)), (0, .ref (gad G a0 (b0 + 1))), (1, .int x1)]) X.hx X.hb dJ7_fill_53178_4 rfl hl (by decide) rfl (fun ls hl => ?_)
  exact bJ7_fill_53178_5 X    _ _ _ _ _ _ _ _ ha0 hf _ _ _ hH hS (lv_sub hl [2, 3, 1, 0] rfl)
set_option maxRecDepth 20000 in
set_option maxHeartbeats 4000000 in
theorem kJ6_bitCount_0f7a4 (l : Launch) {G : gG} {σ : Mem} {r : Int32} {x0 : Int32}  (hf : fJ6_bitCount_0f7a4 x0 = some r) : CM l yJ6_bitCount_0f7a4 cJ6_bitCount_0f7a4 1 (some .int) 0 0 G σ [.int x0] (some (.int r)) σ := by
  refine CM.of (by decide) (Nat.le_of_ble_eq_true rfl) (fun p e s m below meth c ls X hH hl => ?_)
  have X : gX p s m _ meth c yJ6_bitCount_0f7a4 cJ6_bitCount_0f7a4 1 (some .int) RJ6 G := X
  have hS : va_S (gAA G) s.heap s.heap [] := va_S.rf
  have hl : lv_has ls 1 [(0, .int x0)] := hl
  rw [fJ6_bitCount_0f7a4.eq_1] at hf
  refine lv_iload_n X.hx X.hb dJ6_bitCount_0f7a4_0 rfl (lv_at hl 0 rfl) ?_
  refine lv_iload_n X.hx X.hb dJ6_bitCount_0f7a4_1 rfl (lv_at hl 0 rfl) ?_
  refine lv_iconst (v := 1) X.hx X.hb dJ6_bitCount_0f7a4_2 (by decide) ?_
  refine lv_iushr X.hx X.hb dJ6_bitCount_0f7a4_3 rfl ?_
  refine lv_ldcw X.hx X.hb X.hown (X.w kcJ6_265) dJ6_bitCount_0f7a4_4 ?_
  refine lv_iand X.hx X.hb dJ6_bitCount_0f7a4_7 ?_
  refine lv_isub X.hx X.hb dJ6_bitCount_0f7a4_8 ?_
  refine lv_istore_n (lv' := [(0, .int (x0 - (((x0.toUInt32 >>> ((1 : Int32).toUInt32 &&& Int32.toUInt32 31)).toInt32) &&& (1431655765 : Int32))))]) X.hx X.hb dJ6_bitCount_0f7a4_9 rfl hl (by decide) rfl (fun ls hl => ?_)
  refine lv_iload_n X.hx X.hb dJ6_bitCount_0f7a4_10 rfl (lv_at hl 0 rfl) ?_
  refine lv_ldcw X.hx X.hb X.hown (X.w kcJ6_266) dJ6_bitCount_0f7a4_11 ?_
  refine lv_iand X.hx X.hb dJ6_bitCount_0f7a4_14 ?_
  refine lv_iload_n X.hx X.hb dJ6_bitCount_0f7a4_15 rfl (lv_at hl 0 rfl) ?_
  refine lv_iconst (v := 2) X.hx X.hb dJ6_bitCount_0f7a4_16 (by decide) ?_
  refine lv_iushr X.hx X.hb dJ6_bitCount_0f7a4_17 rfl ?_
  refine lv_ldcw X.hx X.hb X.hown (X.w kcJ6_266) dJ6_bitCount_0f7a4_18 ?_
  refine lv_iand X.hx X.hb dJ6_bitCount_0f7a4_21 ?_
  refine lv_iadd X.hx X.hb dJ6_bitCount_0f7a4_22 ?_
  refine lv_istore_n (lv' := [(0, .int (((x0 - (((x0.toUInt32 >>> ((1 : Int32).toUInt32 &&& Int32.toUInt32 31)).toInt32) &&& (1431655765 : Int32))) &&& (858993459 : Int32)) + ((((x0 - (((x0.toUInt32 >>> ((1 : Int32).toUInt32 &&& Int32.toUInt32 31)).toInt32) &&& (1431655765 : Int32))).toUInt32 >>> ((2 : Int32).toUInt32 &&& Int32.toUInt32 31)).toInt32) &&& (858993459 : Int32))))]) X.hx X.hb dJ6_bitCount_0f7a4_23 rfl hl (by decide) rfl (fun ls hl => ?_)
  refine lv_iload_n X.hx X.hb dJ6_bitCount_0f7a4_24 rfl (lv_at hl 0 rfl) ?_
  refine lv_iload_n X.hx X.hb dJ6_bitCount_0f7a4_25 rfl (lv_at hl 0 rfl) ?_
  refine lv_iconst (v := 4) X.hx X.hb dJ6_bitCount_0f7a4_26 (by decide) ?_
  refine lv_iushr X.hx X.hb dJ6_bitCount_0f7a4_27 rfl ?_
  refine lv_iadd X.hx X.hb dJ6_bitCount_0f7a4_28 ?_
  refine lv_ldcw X.hx X.hb X.hown (X.w kcJ6_267) dJ6_bitCount_0f7a4_29 ?_
  refine lv_iand X.hx X.hb dJ6_bitCount_0f7a4_32 ?_
  refine lv_istore_n (lv' := [(0, .int (((((x0 - (((x0.toUInt32 >>> ((1 : Int32).toUInt32 &&& Int32.toUInt32 31)).toInt32) &&& (1431655765 : Int32))) &&& (858993459 : Int32)) + ((((x0 - (((x0.toUInt32 >>> ((1 : Int32).toUInt32 &&& Int32.toUInt32 31)).toInt32) &&& (1431655765 : Int32))).toUInt32 >>> ((2 : Int32).toUInt32 &&& Int32.toUInt32 31)).toInt32) &&& (858993459 : Int32))) + (((((x0 - (((x0.toUInt32 >>> ((1 : Int32).toUInt32 &&& Int32.toUInt32 31)).toInt32) &&& (1431655765 : Int32))) &&& (858993459 : Int32)) + ((((x0 - (((x0.toUInt32 >>> ((1 : Int32).toUInt32 &&& Int32.toUInt32 31)).toInt32) &&& (1431655765 : Int32))).toUInt32 >>> ((2 : Int32).toUInt32 &&& Int32.toUInt32 31)).toInt32) &&& (858993459 : Int32))).toUInt32 >>> ((4 : Int32).toUInt32 &&& Int32.toUInt32 31)).toInt32)) &&& (252645135 : Int32)))]) X.hx X.hb dJ6_bitCount_0f7a4_33 rfl hl (by decide) rfl (fun ls hl => ?_)
  refine lv_iload_n X.hx X.hb dJ6_bitCount_0f7a4_34 rfl (lv_at hl 0 rfl) ?_
  refine lv_iload_n X.hx X.hb dJ6_bitCount_0f7a4_35 rfl (lv_at hl 0 rfl) ?_
  refine lv_bipush (v := 8) X.hx X.hb dJ6_bitCount_0f7a4_36 (by decide) ?_
  refine lv_iushr X.hx X.hb dJ6_bitCount_0f7a4_38 rfl ?_
  refine lv_iadd X.hx X.hb dJ6_bitCount_0f7a4_39 ?_
  refine lv_istore_n (lv' := [(0, .int ((((((x0 - (((x0.toUInt32 >>> ((1 : Int32).toUInt32 &&& Int32.toUInt32 31)).toInt32) &&& (1431655765 : Int32))) &&& (858993459 : Int32)) + ((((x0 - (((x0.toUInt32 >>> ((1 : Int32).toUInt32 &&& Int32.toUInt32 31)).toInt32) &&& (1431655765 : Int32))).toUInt32 >>> ((2 : Int32).toUInt32 &&& Int32.toUInt32 31)).toInt32) &&& (858993459 : Int32))) + (((((x0 - (((x0.toUInt32 >>> ((1 : Int32).toUInt32 &&& Int32.toUInt32 31)).toInt32) &&& (1431655765 : Int32))) &&& (858993459 : Int32)) + ((((x0 - (((x0.toUInt32 >>> ((1 : Int32).toUInt32 &&& Int32.toUInt32 31)).toInt32) &&& (1431655765 : Int32))).toUInt32 >>> ((2 : Int32).toUInt32 &&& Int32.toUInt32 31)).toInt32) &&& (858993459 : Int32))).toUInt32 >>> ((4 : Int32).toUInt32 &&& Int32.toUInt32 31)).toInt32)) &&& (252645135 : Int32)) + (((((((x0 - (((x0.toUInt32 >>> ((1 : Int32).toUInt32 &&& Int32.toUInt32 31)).toInt32) &&& (1431655765 : Int32))) &&& (858993459 : Int32)) + ((((x0 - (((x0.toUInt32 >>> ((1 : Int32).toUInt32 &&& Int32.toUInt32 31)).toInt32) &&& (1431655765 : Int32))).toUInt32 >>> ((2 : Int32).toUInt32 &&& Int32.toUInt32 31)).toInt32) &&& (858993459 : Int32))) + (((((x0 - (((x0.toUInt32 >>> ((1 : Int32).toUInt32 &&& Int32.toUInt32 31)).toInt32) &&& (1431655765 : Int32))) &&& (858993459 : Int32)) + ((((x0 - (((x0.toUInt32 >>> ((1 : Int32).toUInt32 &&& Int32.toUInt32 31)).toInt32) &&& (1431655765 : Int32))).toUInt32 >>> ((2 : Int32).toUInt32 &&& Int32.toUInt32 31)).toInt32) &&& (858993459 : Int32))).toUInt32 >>> ((4 : Int32).toUInt32 &&& Int32.toUInt32 31)).toInt32)) &&& (252645135 : Int32)).toUInt32 >>> ((8 : Int32).toUInt32 &&& Int32.toUInt32 31)).toInt32)))]) X.hx X.hb dJ6_bitCount_0f7a4_40 rfl hl (by decide) rfl (fun ls hl => ?_)
  refine lv_iload_n X.hx X.hb dJ6_bitCount_0f7a4_41 rfl (lv_at hl 0 rfl) ?_
  refine lv_iload_n X.hx X.hb dJ6_bitCount_0f7a4_42 rfl (lv_at hl 0 rfl) ?_
  refine lv_bipush (v := 16) X.hx X.hb dJ6_bitCount_0f7a4_43 (by decide) ?_
  refine lv_iushr X.hx X.hb dJ6_bitCount_0f7a4_45 rfl ?_
  refine lv_iadd X.hx X.hb dJ6_bitCount_0f7a4_46 ?_
  refine lv_istore_n (lv' := [(0, .int (((((((x0 - (((x0.toUInt32 >>> ((1 : Int32).toUInt32 &&& Int32.toUInt32 31)).toInt32) &&& (1431655765 : Int32))) &&& (858993459 : Int32)) + ((((x0 - (((x0.toUInt32 >>> ((1 : Int32).toUInt32 &&& Int32.toUInt32 31)).toInt32) &&& (1431655765 : Int32))).toUInt32 >>> ((2 : Int32).toUInt32 &&& Int32.toUInt32 31)).toInt32) &&& (858993459 : Int32))) + (((((x0 - (((x0.toUInt32 >>> ((1 : Int32).toUInt32 &&& Int32.toUInt32 31)).toInt32) &&& (1431655765 : Int32))) &&& (858993459 : Int32)) + ((((x0 - (((x0.toUInt32 >>> ((1 : Int32).toUInt32 &&& Int32.toUInt32 31)).toInt32) &&& (1431655765 : Int32))).toUInt32 >>> ((2 : Int32).toUInt32 &&& Int32.toUInt32 31)).toInt32) &&& (858993459 : Int32))).toUInt32 >>> ((4 : Int32).toUInt32 &&& Int32.toUInt32 31)).toInt32)) &&& (252645135 : Int32)) + (((((((x0 - (((x0.toUInt32 >>> ((1 : Int32).toUInt32 &&& Int32.toUInt32 31)).toInt32) &&& (1431655765 : Int32))) &&& (858993459 : Int32)) + ((((x0 - (((x0.toUInt32 >>> ((1 : Int32).toUInt32 &&& Int32.toUInt32 31)).toInt32) &&& (1431655765 : Int32))).toUInt32 >>> ((2 : Int32).toUInt32 &&& Int32.toUInt32 31)).toInt32) &&& (858993459 : Int32))) + (((((x0 - (((x0.toUInt32 >>> ((1 : Int32).toUInt32 &&& Int32.toUInt32 31)).toInt32) &&& (1431655765 : Int32))) &&& (858993459 : Int32)) + ((((x0 - (((x0.toUInt32 >>> ((1 : Int32).toUInt32 &&& Int32.toUInt32 31)).toInt32) &&& (1431655765 : Int32))).toUInt32 >>> ((2 : Int32).toUInt32 &&& Int32.toUInt32 31)).toInt32) &&& (858993459 : Int32))).toUInt32 >>> ((4 : Int32).toUInt32 &&& Int32.toUInt32 31)).toInt32)) &&& (252645135 : Int32)).toUInt32 >>> ((8 : Int32).toUInt32 &&& Int32.toUInt32 31)).toInt32)) + ((((((((x0 - (((x0.toUInt32 >>> ((1 : Int32).toUInt32 &&& Int32.toUInt32 31)).toInt32) &&& (1431655765 : Int32))) &&& (858993459 : Int32)) + ((((x0 - (((x0.toUInt32 >>> ((1 : Int32).toUInt32 &&& Int32.toUInt32 31)).toInt32) &&& (1431655765 : Int32))).toUInt32 >>> ((2 : Int32).toUInt32 &&& Int32.toUInt32 31)).toInt32) &&& (858993459 : Int32))) + (((((x0 - (((x0.toUInt32 >>> ((1 : Int32).toUInt32 &&& Int32.toUInt32 31)).toInt32) &&& (1431655765 : Int32))) &&& (858993459 : Int32)) + ((((x0 - (((x0.toUInt32 >>> ((1 : Int32).toUInt32 &&& Int32.toUInt32 31)).toInt32) &&& (1431655765 : Int32))).toUInt32 >>> ((2 : Int32).toUInt32 &&& Int32.toUInt32 31)).toInt32) &&& (858993459 : Int32))).toUInt32 >>> ((4 : Int32).toUInt32 &&& Int32.toUInt32 31)).toInt32)) &&& (252645135 : Int32)) + (((((((x0 - (((x0.toUInt32 >>> ((1 : Int32).toUInt32 &&& Int32.toUInt32 31)).toInt32) &&& (1431655765 : Int32))) &&& (858993459 : Int32)) + ((((x0 - (((x0.toUInt32 >>> ((1 : Int32).toUInt32 &&& Int32.toUInt32 31)).toInt32) &&& (1431655765 : Int32))).toUInt32 >>> ((2 : Int32).toUInt32 &&& Int32.toUInt32 31)).toInt32) &&& (858993459 : Int32))) + (((((x0 - (((x0.toUInt32 >>> ((1 : Int32).toUInt32 &&& Int32.toUInt32 31)).toInt32) &&& (1431655765 : Int32))) &&& (858993459 : Int32)) + ((((x0 - (((x0.toUInt32 >>> ((1 : Int32).toUInt32 &&& Int32.toUInt32 31)).toInt32) &&& (1431655765 : Int32))).toUInt32 >>> ((2 : Int32).toUInt32 &&& Int32.toUInt32 31)).toInt32) &&& (858993459 : Int32))).toUInt32 >>> ((4 : Int32).toUInt32 &&& Int32.toUInt32 31)).toInt32)) &&& (252645135 : Int32)).toUInt32 >>> ((8 : Int32).toUInt32 &&& Int32.toUInt32 31)).toInt32)).toUInt32 >>> ((16 : Int32).toUInt32 &&& Int32.toUInt32 31)).toInt32)))]) X.hx X.hb dJ6_bitCount_0f7a4_47 rfl hl (by decide) rfl (fun ls hl => ?_)
  refine lv_iload_n X.hx X.hb dJ6_bitCount_0f7a4_48 rfl (lv_at hl 0 rfl) ?_
  refine lv_bipush (v := 63) X.hx X.hb dJ6_bitCount_0f7a4_49 (by decide) ?_
  refine lv_iand X.hx X.hb dJ6_bitCount_0f7a4_51 ?_
  exact g_iret X hH hS rfl (so1 hf) dJ6_bitCount_0f7a4_52
set_option maxRecDepth 20000 in
set_option maxHeartbeats 4000000 in
theorem bJ6_numberOfTrailingZeros_0f7a4_62 {p : Program} {l : Launch} {e : Env} {s : State} {m : MethodId} {args : Array Value} {below : List Frame} {meth : Method} {c : Code} {G : gG} (X : gX p s m args meth c yJ6_numberOfTrailingZeros_0f7a4 cJ6_numberOfTrailingZeros_0f7a4 2 (some .int) RJ6 G)  {σ : Mem} {r : Int32} : (∀ (x0 : Int32) (x1 : Int32), fJ6_numberOfTrailingZeros_0f7a4_62 x0 x1 = some r → ∀ (H : Heap) (locs : List Loc) (ls : Array Slot), gH G σ H → va_S (gAA G) s.heap H locs → lv_has ls 2 [(0, .int x0), (1, .int x1)] → WB p l e 0 0 s m args below meth c G (some (.int r)) σ H locs (F0 m 62 ls [])) := by
  intro x0 x1 hf H locs ls hH hS hl
  rw [fJ6_numberOfTrailingZeros_0f7a4_62.eq_1] at hf
  refine lv_iload_n X.hx X.hb dJ6_numberOfTrailingZeros_0f7a4_62 rfl (lv_at hl 0 rfl) ?_
  refine lv_iconst (v := 4) X.hx X.hb dJ6_numberOfTrailingZeros_0f7a4_63 (by decide) ?_
  refine lv_icmp_le (tgt := 74) X.hx X.hb dJ6_numberOfTrailingZeros_0f7a4_64 (by decide) (fun c6 => ?_) (fun c6 => ?_)
  · have hf := it_p hf c6
    refine lv_iload_n X.hx X.hb dJ6_numberOfTrailingZeros_0f7a4_74 rfl (lv_at hl 1 rfl) ?_
    refine lv_iload_n X.hx X.hb dJ6_numberOfTrailingZeros_0f7a4_75 rfl (lv_at hl 0 rfl) ?_
    refine lv_iconst (v := 1) X.hx X.hb dJ6_numberOfTrailingZeros_0f7a4_76 (by decide) ?_
    refine lv_iushr X.hx X.hb dJ6_numberOfTrailingZeros_0f7a4_77 rfl ?_
    refine lv_iadd X.hx X.hb dJ6_numberOfTrailingZeros_0f7a4_78 ?_
    exact g_iret X hH hS rfl (so1 hf) dJ6_numberOfTrailingZeros_0f7a4_79
  · have hf := it_n hf c6
    refine lv_iinc (v := x1 + 2) (lv' := [(1, .int (x1 + 2)), (0, .int x0)]) X.hx X.hb dJ6_numberOfTrailingZeros_0f7a4_67 hl (k := 1) rfl rfl (by decide) rfl (fun ls hl => ?_)
    refine lv_iload_n X.hx X.hb dJ6_numberOfTrailingZeros_0f7a4_70 rfl (lv_at hl 1 rfl) ?_
    refine lv_iconst (v := 2) X.hx X.hb dJ6_numberOfTrailingZeros_0f7a4_71 (by decide) ?_
    refine lv_iushr X.hx X.hb dJ6_numberOfTrailingZeros_0f7a4_72 rfl ?_
    refine lv_istore_n (lv' := [(0, .int ((x0.toUInt32 >>> ((2 : Int32).toUInt32 &&& Int32.toUInt32 31)).toInt32)), (1, .int (x1 + 2))]) X.hx X.hb dJ6_numberOfTrailingZeros_0f7a4_73 rfl hl (by decide) rfl (fun ls hl => ?_)
    refine lv_iload_n X.hx X.hb dJ6_numberOfTrailingZeros_0f7a4_74 rfl (lv_at hl 1 rfl) ?_
    refine lv_iload_n X.hx X.hb dJ6_numberOfTrailingZeros_0f7a4_75 rfl (lv_at hl 0 rfl) ?_
    refine lv_iconst (v := 1) X.hx X.hb dJ6_numberOfTrailingZeros_0f7a4_76 (by decide) ?_
    refine lv_iushr X.hx X.hb dJ6_numberOfTrailingZeros_0f7a4_77 rfl ?_
    refine lv_iadd X.hx X.hb dJ6_numberOfTrailingZeros_0f7a4_78 ?_
    exact g_iret X hH hS rfl (so1 hf) dJ6_numberOfTrailingZeros_0f7a4_79
set_option maxRecDepth 20000 in
set_option maxHeartbeats 4000000 in
theorem bJ6_numberOfTrailingZeros_0f7a4_49 {p : Program} {l : Launch} {e : Env} {s : State} {m : MethodId} {args : Array Value} {below : List Frame} {meth : Method} {c : Code} {G : gG} (X : gX p s m args meth c yJ6_numberOfTrailingZeros_0f7a4 cJ6_numberOfTrailingZeros_0f7a4 2 (some .int) RJ6 G)  {σ : Mem} {r : Int32} : (∀ (x0 : Int32) (x1 : Int32), fJ6_numberOfTrailingZeros_0f7a4_49 x0 x1 = some r → ∀ (H : Heap) (locs : List Loc) (ls : Array Slot), gH G σ H → va_S (gAA G) s.heap H locs → lv_has ls 2 [(0, .int x0), (1, .int x1)] → WB p l e 0 0 s m args below meth c G (some (.int r)) σ H locs (F0 m 49 ls [])) := by
  intro x0 x1 hf H locs ls hH hS hl
  rw [fJ6_numberOfTrailingZeros_0f7a4_49.eq_1] at hf
  refine lv_iload_n X.hx X.hb dJ6_numberOfTrailingZeros_0f7a4_49 rfl (lv_at hl 0 rfl) ?_
  refine lv_bipush (v := 16) X.hx X.hb dJ6_numberOfTrailingZeros_0f7a4_50 (by decide) ?_
  refine lv_icmp_le (tgt := 62) X.hx X.hb dJ6_numberOfTrailingZeros_0f7a4_52 (by decide) (fun c7 => ?_) (fun c7 => ?_)
  · have hf := it_p hf c7
    exact bJ6_numberOfTrailingZeros_0f7a4_62 X     _ _  hf _ _ _ hH hS (lv_sub hl [0, 1] rfl)
  · have hf := it_n hf c7
    refine lv_iinc (v := x1 + 4) (lv' := [(1, .int (x1 + 4)), (0, .int x0)]) X.hx X.hb dJ6_numberOfTrailingZeros_0f7a4_55 hl (k := 1) rfl rfl (by decide) rfl (fun ls hl => ?_)
    refine lv_iload_n X.hx X.hb dJ6_numberOfTrailingZeros_0f7a4_58 rfl (lv_at hl 1 rfl) ?_
    refine lv_iconst (v := 4) X.hx X.hb dJ6_numberOfTrailingZeros_0f7a4_59 (by decide) ?_
    refine lv_iushr X.hx X.hb dJ6_numberOfTrailingZeros_0f7a4_60 rfl ?_
    refine lv_istore_n (lv' := [(0, .int ((x0.toUInt32 >>> ((4 : Int32).toUInt32 &&& Int32.toUInt32 31)).toInt32)), (1, .int (x1 + 4))]) X.hx X.hb dJ6_numberOfTrailingZeros_0f7a4_61 rfl hl (by decide) rfl (fun ls hl => ?_)
    exact bJ6_numberOfTrailingZeros_0f7a4_62 X     _ _  hf _ _ _ hH hS (lv_sub hl [0, 1] rfl)
set_option maxRecDepth 20000 in
set_option maxHeartbeats 4000000 in
theorem bJ6_numberOfTrailingZeros_0f7a4_34 {p : Program} {l : Launch} {e : Env} {s : State} {m : MethodId} {args : Array Value} {below : List Frame} {meth : Method} {c : Code} {G : gG} (X : gX p s m args meth c yJ6_numberOfTrailingZeros_0f7a4 cJ6_numberOfTrailingZeros_0f7a4 2 (some .int) RJ6 G)  {σ : Mem} {r : Int32} : (∀ (x0 : Int32) (x1 : Int32), fJ6_numberOfTrailingZeros_0f7a4_34 x0 x1 = some r → ∀ (H : Heap) (locs : List Loc) (ls : Array Slot), gH G σ H → va_S (gAA G) s.heap H locs → lv_has ls 2 [(0, .int x0), (1, .int x1)] → WB p l e 0 0 s m args below meth c G (some (.int r)) σ H locs (F0 m 34 ls [])) := by
  intro x0 x1 hf H locs ls hH hS hl
  rw [fJ6_numberOfTrailingZeros_0f7a4_34.eq_1] at hf
  refine lv_iload_n X.hx X.hb dJ6_numberOfTrailingZeros_0f7a4_34 rfl (lv_at hl 0 rfl) ?_
  refine lv_sipush (v := 256) X.hx X.hb dJ6_numberOfTrailingZeros_0f7a4_35 (by decide) ?_
  refine lv_icmp_le (tgt := 49) X.hx X.hb dJ6_numberOfTrailingZeros_0f7a4_38 (by decide) (fun c8 => ?_) (fun c8 => ?_)
  · have hf := it_p hf c8
    exact bJ6_numberOfTrailingZeros_0f7a4_49 X     _ _  hf _ _ _ hH hS (lv_sub hl [0, 1] rfl)
  · have hf := it_n hf c8
    refine lv_iinc (v := x1 + 8) (lv' := [(1, .int (x1 + 8)), (0, .int x0)]) X.hx X.hb dJ6_numberOfTrailingZeros_0f7a4_41 hl (k := 1) rfl rfl (by decide) rfl (fun ls hl => ?_)
    refine lv_iload_n X.hx X.hb dJ6_numberOfTrailingZeros_0f7a4_44 rfl (lv_at hl 1 rfl) ?_
    refine lv_bipush (v := 8) X.hx X.hb dJ6_numberOfTrailingZeros_0f7a4_45 (by decide) ?_
    refine lv_iushr X.hx X.hb dJ6_numberOfTrailingZeros_0f7a4_47 rfl ?_
    refine lv_istore_n (lv' := [(0, .int ((x0.toUInt32 >>> ((8 : Int32).toUInt32 &&& Int32.toUInt32 31)).toInt32)), (1, .int (x1 + 8))]) X.hx X.hb dJ6_numberOfTrailingZeros_0f7a4_48 rfl hl (by decide) rfl (fun ls hl => ?_)
    exact bJ6_numberOfTrailingZeros_0f7a4_49 X     _ _  hf _ _ _ hH hS (lv_sub hl [0, 1] rfl)
set_option maxRecDepth 20000 in
set_option maxHeartbeats 4000000 in
theorem kJ6_numberOfTrailingZeros_0f7a4 (l : Launch) {G : gG} {σ : Mem} {r : Int32} {x0 : Int32}  (hf : fJ6_numberOfTrailingZeros_0f7a4 x0 = some r) : CM l yJ6_numberOfTrailingZeros_0f7a4 cJ6_numberOfTrailingZeros_0f7a4 2 (some .int) 0 0 G σ [.int x0] (some (.int r)) σ := by
  refine CM.of (by decide) (Nat.le_of_ble_eq_true rfl) (fun p e s m below meth c ls X hH hl => ?_)
  have X : gX p s m _ meth c yJ6_numberOfTrailingZeros_0f7a4 cJ6_numberOfTrailingZeros_0f7a4 2 (some .int) RJ6 G := X
  have hS : va_S (gAA G) s.heap s.heap [] := va_S.rf
  have hl : lv_has ls 2 [(0, .int x0)] := hl
  rw [fJ6_numberOfTrailingZeros_0f7a4.eq_1] at hf
  refine lv_iload_n X.hx X.hb dJ6_numberOfTrailingZeros_0f7a4_0 rfl (lv_at hl 0 rfl) ?_
  refine lv_iconst (v := -1) X.hx X.hb dJ6_numberOfTrailingZeros_0f7a4_1 (by decide) ?_
  refine lv_ixor X.hx X.hb dJ6_numberOfTrailingZeros_0f7a4_2 ?_
  refine lv_iload_n X.hx X.hb dJ6_numberOfTrailingZeros_0f7a4_3 rfl (lv_at hl 0 rfl) ?_
  refine lv_iconst (v := 1) X.hx X.hb dJ6_numberOfTrailingZeros_0f7a4_4 (by decide) ?_
  refine lv_isub X.hx X.hb dJ6_numberOfTrailingZeros_0f7a4_5 ?_
  refine lv_iand X.hx X.hb dJ6_numberOfTrailingZeros_0f7a4_6 ?_
  refine lv_istore_n (lv' := [(0, .int ((x0 ^^^ (-1 : Int32)) &&& (x0 - (1 : Int32))))]) X.hx X.hb dJ6_numberOfTrailingZeros_0f7a4_7 rfl hl (by decide) rfl (fun ls hl => ?_)
  refine lv_iload_n X.hx X.hb dJ6_numberOfTrailingZeros_0f7a4_8 rfl (lv_at hl 0 rfl) ?_
  refine lv_if_gt (tgt := 17) X.hx X.hb dJ6_numberOfTrailingZeros_0f7a4_9 (by decide) (fun c9 => ?_) (fun c9 => ?_)
  · have hf := it_p hf c9
    refine lv_iconst (v := 1) X.hx X.hb dJ6_numberOfTrailingZeros_0f7a4_17 (by decide) ?_
    refine lv_istore_n (lv' := [(1, .int (1 : Int32)), (0, .int ((x0 ^^^ (-1 : Int32)) &&& (x0 - (1 : Int32))))]) X.hx X.hb dJ6_numberOfTrailingZeros_0f7a4_18 rfl hl (by decide) rfl (fun ls hl => ?_)
    refine lv_iload_n X.hx X.hb dJ6_numberOfTrailingZeros_0f7a4_19 rfl (lv_at hl 1 rfl) ?_
    refine lv_ldcw X.hx X.hb X.hown (X.w kcJ6_264) dJ6_numberOfTrailingZeros_0f7a4_20 ?_
    refine lv_icmp_le (tgt := 34) X.hx X.hb dJ6_numberOfTrailingZeros_0f7a4_23 (by decide) (fun c10 => ?_) (fun c10 => ?_)
    · have hf := it_p hf c10
      exact bJ6_numberOfTrailingZeros_0f7a4_34 X     _ _  hf _ _ _ hH hS (lv_sub hl [1, 0] rfl)
    · have hf := it_n hf c10
      refine lv_iinc (v := (1 : Int32) + 16) (lv' := [(1, .int ((1 : Int32) + 16)), (0, .int ((x0 ^^^ (-1 : Int32)) &&& (x0 - (1 : Int32))))]) X.hx X.hb dJ6_numberOfTrailingZeros_0f7a4_26 hl (k := 0) rfl rfl (by decide) rfl (fun ls hl => ?_)
      refine lv_iload_n X.hx X.hb dJ6_numberOfTrailingZeros_0f7a4_29 rfl (lv_at hl 1 rfl) ?_
      refine lv_bipush (v := 16) X.hx X.hb dJ6_numberOfTrailingZeros_0f7a4_30 (by decide) ?_
      refine lv_iushr X.hx X.hb dJ6_numberOfTrailingZeros_0f7a4_32 rfl ?_
      refine lv_istore_n (lv' := [(0, .int ((((x0 ^^^ (-1 : Int32)) &&& (x0 - (1 : Int32))).toUInt32 >>> ((16 : Int32).toUInt32 &&& Int32.toUInt32 31)).toInt32)), (1, .int ((1 : Int32) + 16))]) X.hx X.hb dJ6_numberOfTrailingZeros_0f7a4_33 rfl hl (by decide) rfl (fun ls hl => ?_)
      exact bJ6_numberOfTrailingZeros_0f7a4_34 X     _ _  hf _ _ _ hH hS (lv_sub hl [0, 1] rfl)
  · have hf := it_n hf c9
    refine lv_iload_n X.hx X.hb dJ6_numberOfTrailingZeros_0f7a4_12 rfl (lv_at hl 0 rfl) ?_
    refine lv_bipush (v := 32) X.hx X.hb dJ6_numberOfTrailingZeros_0f7a4_13 (by decide) ?_
    refine lv_iand X.hx X.hb dJ6_numberOfTrailingZeros_0f7a4_15 ?_
    exact g_iret X hH hS rfl (so1 hf) dJ6_numberOfTrailingZeros_0f7a4_16
