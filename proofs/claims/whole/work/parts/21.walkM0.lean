set_option maxRecDepth 20000 in
set_option maxHeartbeats 4000000 in
theorem kX6_in (l : Launch) {G : gG} {σ : Mem} {r : Int32} {x0 : Int32} {x1 : Int32} {x2 : Int32}  (hf : fX6_in x0 x1 x2 = some r) : CM l yX6_in cX6_in 3 (some .boolean) 0 0 G σ [.int x0, .int x1, .int x2] (some (.int r)) σ := by
  refine CM.of (by decide) (Nat.le_of_ble_eq_true rfl) (fun p e s m below meth c ls X hH hl => ?_)
  have X : gX p s m _ meth c yX6_in cX6_in 3 (some .boolean) RX6 G := X
  have hS : va_S (gAA G) s.heap s.heap [] := va_S.rf
  have hl : lv_has ls 3 [(0, .int x0), (1, .int x1), (2, .int x2)] := hl
  rw [fX6_in.eq_1] at hf
  refine lv_iload_n X.hx X.hb dX6_in_0 rfl (lv_at hl 0 rfl) ?_
  refine lv_iload_n X.hx X.hb dX6_in_1 rfl (lv_at hl 1 rfl) ?_
  refine lv_icmp_lt (tgt := 14) X.hx X.hb dX6_in_2 (by decide) (fun c3 => ?_) (fun c3 => ?_)
  · have hf := it_p hf c3
    refine lv_iconst (v := 0) X.hx X.hb dX6_in_14 (by decide) ?_
    exact g_zret X hH hS rfl (so1 hf) (by decide) dX6_in_15
  · have hf := it_n hf c3
    refine lv_iload_n X.hx X.hb dX6_in_5 rfl (lv_at hl 0 rfl) ?_
    refine lv_iload_n X.hx X.hb dX6_in_6 rfl (lv_at hl 2 rfl) ?_
    refine lv_icmp_gt (tgt := 14) X.hx X.hb dX6_in_7 (by decide) (fun c4 => ?_) (fun c4 => ?_)
    · have hf := it_p hf c4
      refine lv_iconst (v := 0) X.hx X.hb dX6_in_14 (by decide) ?_
      exact g_zret X hH hS rfl (so1 hf) (by decide) dX6_in_15
    · have hf := it_n hf c4
      refine lv_iconst (v := 1) X.hx X.hb dX6_in_10 (by decide) ?_
      refine lv_goto (tgt := 15) X.hx X.hb dX6_in_11 (by decide) ?_
      exact g_zret X hH hS rfl (so1 hf) (by decide) dX6_in_15
set_option maxRecDepth 20000 in
set_option maxHeartbeats 4000000 in
theorem kX6_has (l : Launch) {G : gG} {σ : Mem} {r : Int32} {x0 : Int32} {x1 : Int32}  (hf : fX6_has x0 x1 = some r) : CM l yX6_has cX6_has 2 (some .boolean) 0 0 G σ [.int x0, .int x1] (some (.int r)) σ := by
  refine CM.of (by decide) (Nat.le_of_ble_eq_true rfl) (fun p e s m below meth c ls X hH hl => ?_)
  have X : gX p s m _ meth c yX6_has cX6_has 2 (some .boolean) RX6 G := X
  have hS : va_S (gAA G) s.heap s.heap [] := va_S.rf
  have hl : lv_has ls 2 [(0, .int x0), (1, .int x1)] := hl
  rw [fX6_has.eq_1] at hf
  refine lv_iload_n X.hx X.hb dX6_has_0 rfl (lv_at hl 0 rfl) ?_
  refine lv_iload_n X.hx X.hb dX6_has_1 rfl (lv_at hl 1 rfl) ?_
  refine lv_ishr X.hx X.hb dX6_has_2 ?_
  refine lv_iconst (v := 1) X.hx X.hb dX6_has_3 (by decide) ?_
  refine lv_iand X.hx X.hb dX6_has_4 ?_
  refine lv_iconst (v := 1) X.hx X.hb dX6_has_5 (by decide) ?_
  refine lv_icmp_ne (tgt := 13) X.hx X.hb dX6_has_6 (by decide) (fun c2 => ?_) (fun c2 => ?_)
  · have hf := it_n hf c2
    refine lv_iconst (v := 0) X.hx X.hb dX6_has_13 (by decide) ?_
    exact g_zret X hH hS rfl (so1 hf) (by decide) dX6_has_14
  · have hf := it_p hf c2
    refine lv_iconst (v := 1) X.hx X.hb dX6_has_9 (by decide) ?_
    refine lv_goto (tgt := 14) X.hx X.hb dX6_has_10 (by decide) ?_
    exact g_zret X hH hS rfl (so1 hf) (by decide) dX6_has_14
set_option maxRecDepth 20000 in
set_option maxHeartbeats 4000000 in
theorem bX6_bits_4 {p : Program} {l : Launch} {e : Env} {s : State} {m : MethodId} {args : Array Value} {below : List Frame} {meth : Method} {c : Code} {G : gG} (X : gX p s m args meth c yX6_bits cX6_bits 3 (some .int) RX6 G)  {σ : Mem} {r : Int32} : (∀ (n : Nat) (x1 : Int32) (x2 : Int32), fX6_bits_4 n x1 x2 = some r → ∀ (H : Heap) (locs : List Loc) (ls : Array Slot), gH G σ H → va_S (gAA G) s.heap H locs → lv_has ls 3 [(1, .int x1), (2, .int x2)] → WB p l e 0 0 s m args below meth c G (some (.int r)) σ H locs (F0 m 4 ls [])) := by
  intro n
  induction n with
  | zero => intro x1 x2 hf H locs ls hH hS hl; exact nomatch (show (none : Option Int32) = some _ from hf)
  | succ n ih =>
    intro x1 x2 hf H locs ls hH hS hl
    rw [fX6_bits_4.eq_2] at hf
    refine lv_iload_n X.hx X.hb dX6_bits_4 rfl (lv_at hl 1 rfl) ?_
    refine lv_if_le (tgt := 20) X.hx X.hb dX6_bits_5 (by decide) (fun c2 => ?_) (fun c2 => ?_)
    · have hf := it_p hf c2
      refine lv_iload_n X.hx X.hb dX6_bits_20 rfl (lv_at hl 0 rfl) ?_
      exact g_iret X hH hS rfl (so1 hf) dX6_bits_21
    · have hf := it_n hf c2
      refine lv_iinc (v := x1 + 1) (lv' := [(1, .int (x1 + 1)), (2, .int x2)]) X.hx X.hb dX6_bits_8 hl (k := 0) rfl rfl (by decide) rfl (fun ls hl => ?_)
      refine lv_iload_n X.hx X.hb dX6_bits_11 rfl (lv_at hl 1 rfl) ?_
      refine lv_iload_n X.hx X.hb dX6_bits_12 rfl (lv_at hl 1 rfl) ?_
      refine lv_iconst (v := 1) X.hx X.hb dX6_bits_13 (by decide) ?_
      refine lv_isub X.hx X.hb dX6_bits_14 ?_
      refine lv_iand X.hx X.hb dX6_bits_15 ?_
      refine lv_istore_n (lv' := [(2, .int (x2 &&& (x2 - (1 : Int32)))), (1, .int (x1 + 1))]) X.hx X.hb dX6_bits_16 rfl hl (by decide) rfl (fun ls hl => ?_)
      refine lv_goto (tgt := 4) X.hx X.hb dX6_bits_17 (by decide) ?_
      exact ih _ _  hf _ _ _ hH hS (lv_sub hl [1, 0] rfl)
set_option maxRecDepth 20000 in
set_option maxHeartbeats 4000000 in
theorem kX6_bits (l : Launch) {G : gG} {σ : Mem} {r : Int32} {x0 : Int32}  (hf : fX6_bits x0 = some r) : CM l yX6_bits cX6_bits 3 (some .int) 0 0 G σ [.int x0] (some (.int r)) σ := by
  refine CM.of (by decide) (Nat.le_of_ble_eq_true rfl) (fun p e s m below meth c ls X hH hl => ?_)
  have X : gX p s m _ meth c yX6_bits cX6_bits 3 (some .int) RX6 G := X
  have hS : va_S (gAA G) s.heap s.heap [] := va_S.rf
  have hl : lv_has ls 3 [(0, .int x0)] := hl
  rw [fX6_bits.eq_1] at hf
  refine lv_iconst (v := 0) X.hx X.hb dX6_bits_0 (by decide) ?_
  refine lv_istore_n (lv' := [(1, .int (0 : Int32)), (0, .int x0)]) X.hx X.hb dX6_bits_1 rfl hl (by decide) rfl (fun ls hl => ?_)
  refine lv_iload_n X.hx X.hb dX6_bits_2 rfl (lv_at hl 1 rfl) ?_
  refine lv_istore_n (lv' := [(2, .int x0), (1, .int (0 : Int32)), (0, .int x0)]) X.hx X.hb dX6_bits_3 rfl hl (by decide) rfl (fun ls hl => ?_)
  exact bX6_bits_4 X    _ _ _  hf _ _ _ hH hS (lv_sub hl [1, 0] rfl)
set_option maxRecDepth 20000 in
set_option maxHeartbeats 4000000 in
theorem kX6_isTraveller (l : Launch) {G : gG} {σ : Mem} {r : Int32} {o : Nat} {x1 : Int32} (ho : gsh G o = some 6)  (hf : fX6_isTraveller σ o x1 = some r) : CM l yX6_isTraveller cX6_isTraveller 2 (some .boolean) 1 22 G σ [.ref (gad G o 0), .int x1] (some (.int r)) σ := by
  refine CM.of (by decide) (Nat.le_of_ble_eq_true rfl) (fun p e s m below meth c ls X hH hl => ?_)
  have X : gX p s m _ meth c yX6_isTraveller cX6_isTraveller 2 (some .boolean) RX6 G := X
  have hS : va_S (gAA G) s.heap s.heap [] := va_S.rf
  have hl : lv_has ls 2 [(0, .ref (gad G o 0)), (1, .int x1)] := hl
  rw [fX6_isTraveller.eq_1] at hf
  refine lv_iload_n X.hx X.hb dX6_isTraveller_0 rfl (lv_at hl 1 rfl) ?_
  refine lv_iconst (v := 0) X.hx X.hb dX6_isTraveller_1 (by decide) ?_
  refine lv_aload_n X.hx X.hb dX6_isTraveller_2 rfl (lv_at hl 0 rfl) ?_
  refine gfX6_82 X hH ho dX6_isTraveller_3 ?_
  refine lv_iconst (v := 1) X.hx X.hb dX6_isTraveller_6 (by decide) ?_
  refine lv_isub X.hx X.hb dX6_isTraveller_7 ?_
  obtain ⟨r2, hr, hf⟩ := bd_e hf
  refine g_callSI (As := [.int x1, .int (0 : Int32), .int ((mI σ o 3) - (1 : Int32))]) (rest := []) X (kX6_in l  hr) ⟨cdX6_in, mlX6_85, stX6_in, iniX6⟩ hsX6_in ⟨Nat.le_of_ble_eq_true rfl, Nat.le_of_ble_eq_true rfl⟩ hH hS hl rfl rfl (Nat.le_of_ble_eq_true rfl) ⟨Nat.le_refl 0, Nat.le_refl 0⟩ dX6_isTraveller_8 (fun H locs hH hS => ?_)
  obtain ⟨hg, hf⟩ := gd_e hf
  exact g_zret X hH hS rfl (so1 hf) (zb_e hg) dX6_isTraveller_11
set_option maxRecDepth 20000 in
set_option maxHeartbeats 4000000 in
theorem kX6_isRow (l : Launch) {G : gG} {σ : Mem} {r : Int32} {o : Nat} {x1 : Int32} (ho : gsh G o = some 6)  (hf : fX6_isRow σ o x1 = some r) : CM l yX6_isRow cX6_isRow 2 (some .boolean) 1 22 G σ [.ref (gad G o 0), .int x1] (some (.int r)) σ := by
  refine CM.of (by decide) (Nat.le_of_ble_eq_true rfl) (fun p e s m below meth c ls X hH hl => ?_)
  have X : gX p s m _ meth c yX6_isRow cX6_isRow 2 (some .boolean) RX6 G := X
  have hS : va_S (gAA G) s.heap s.heap [] := va_S.rf
  have hl : lv_has ls 2 [(0, .ref (gad G o 0)), (1, .int x1)] := hl
  rw [fX6_isRow.eq_1] at hf
  refine lv_iload_n X.hx X.hb dX6_isRow_0 rfl (lv_at hl 1 rfl) ?_
  refine lv_iconst (v := 0) X.hx X.hb dX6_isRow_1 (by decide) ?_
  refine lv_aload_n X.hx X.hb dX6_isRow_2 rfl (lv_at hl 0 rfl) ?_
  refine gfX6_13 X hH ho dX6_isRow_3 ?_
  refine lv_iconst (v := 1) X.hx X.hb dX6_isRow_6 (by decide) ?_
  refine lv_isub X.hx X.hb dX6_isRow_7 ?_
  obtain ⟨r2, hr, hf⟩ := bd_e hf
  refine g_callSI (As := [.int x1, .int (0 : Int32), .int ((mI σ o 1) - (1 : Int32))]) (rest := []) X (kX6_in l  hr) ⟨cdX6_in, mlX6_85, stX6_in, iniX6⟩ hsX6_in ⟨Nat.le_of_ble_eq_true rfl, Nat.le_of_ble_eq_true rfl⟩ hH hS hl rfl rfl (Nat.le_of_ble_eq_true rfl) ⟨Nat.le_refl 0, Nat.le_refl 0⟩ dX6_isRow_8 (fun H locs hH hS => ?_)
  obtain ⟨hg, hf⟩ := gd_e hf
  exact g_zret X hH hS rfl (so1 hf) (zb_e hg) dX6_isRow_11
set_option maxRecDepth 20000 in
set_option maxHeartbeats 4000000 in
theorem kX6_isClerk (l : Launch) {G : gG} {σ : Mem} {r : Int32} {o : Nat} {x1 : Int32} (ho : gsh G o = some 6)  (hf : fX6_isClerk σ o x1 = some r) : CM l yX6_isClerk cX6_isClerk 2 (some .boolean) 1 22 G σ [.ref (gad G o 0), .int x1] (some (.int r)) σ := by
  refine CM.of (by decide) (Nat.le_of_ble_eq_true rfl) (fun p e s m below meth c ls X hH hl => ?_)
  have X : gX p s m _ meth c yX6_isClerk cX6_isClerk 2 (some .boolean) RX6 G := X
  have hS : va_S (gAA G) s.heap s.heap [] := va_S.rf
  have hl : lv_has ls 2 [(0, .ref (gad G o 0)), (1, .int x1)] := hl
  rw [fX6_isClerk.eq_1] at hf
  refine lv_iload_n X.hx X.hb dX6_isClerk_0 rfl (lv_at hl 1 rfl) ?_
  refine lv_iconst (v := 0) X.hx X.hb dX6_isClerk_1 (by decide) ?_
  refine lv_aload_n X.hx X.hb dX6_isClerk_2 rfl (lv_at hl 0 rfl) ?_
  refine gfX6_89 X hH ho dX6_isClerk_3 ?_
  refine lv_iconst (v := 1) X.hx X.hb dX6_isClerk_6 (by decide) ?_
  refine lv_isub X.hx X.hb dX6_isClerk_7 ?_
  obtain ⟨r2, hr, hf⟩ := bd_e hf
  refine g_callSI (As := [.int x1, .int (0 : Int32), .int ((mI σ o 5) - (1 : Int32))]) (rest := []) X (kX6_in l  hr) ⟨cdX6_in, mlX6_85, stX6_in, iniX6⟩ hsX6_in ⟨Nat.le_of_ble_eq_true rfl, Nat.le_of_ble_eq_true rfl⟩ hH hS hl rfl rfl (Nat.le_of_ble_eq_true rfl) ⟨Nat.le_refl 0, Nat.le_refl 0⟩ dX6_isClerk_8 (fun H locs hH hS => ?_)
  obtain ⟨hg, hf⟩ := gd_e hf
  exact g_zret X hH hS rfl (so1 hf) (zb_e hg) dX6_isClerk_11
set_option maxRecDepth 20000 in
set_option maxHeartbeats 4000000 in
theorem kX6_type (l : Launch) {G : gG} {σ : Mem} {r : Int32} {σ' : Mem} {o : Nat} {x1 : Int32} (ho : gsh G o = some 6)  (hf : fX6_type σ o x1 = some (r, σ')) : CM l yX6_type cX6_type 2 (some .int) 1 22 G σ [.ref (gad G o 0), .int x1] (some (.int r)) σ' := by
  refine CM.of (by decide) (Nat.le_of_ble_eq_true rfl) (fun p e s m below meth c ls X hH hl => ?_)
  have X : gX p s m _ meth c yX6_type cX6_type 2 (some .int) RX6 G := X
  have hS : va_S (gAA G) s.heap s.heap [] := va_S.rf
  have hl : lv_has ls 2 [(0, .ref (gad G o 0)), (1, .int x1)] := hl
  rw [fX6_type.eq_1] at hf
  refine lv_iload_n X.hx X.hb dX6_type_0 rfl (lv_at hl 1 rfl) ?_
  refine lv_iconst (v := 0) X.hx X.hb dX6_type_1 (by decide) ?_
  refine lv_sipush (v := 255) X.hx X.hb dX6_type_2 (by decide) ?_
  obtain ⟨r6, hr, hf⟩ := bd_e hf
  refine g_callSI (As := [.int x1, .int (0 : Int32), .int (255 : Int32)]) (rest := []) X (kX6_in l  hr) ⟨cdX6_in, mlX6_85, stX6_in, iniX6⟩ hsX6_in ⟨Nat.le_of_ble_eq_true rfl, Nat.le_of_ble_eq_true rfl⟩ hH hS hl rfl rfl (Nat.le_of_ble_eq_true rfl) ⟨Nat.le_refl 0, Nat.le_refl 0⟩ dX6_type_5 (fun H locs hH hS => ?_)
  refine lv_if_ne (tgt := 13) X.hx X.hb dX6_type_8 (by decide) (fun c7 => ?_) (fun c7 => ?_)
  · have hf := it_n hf c7
    refine lv_aload_n X.hx X.hb dX6_type_13 rfl (lv_at hl 0 rfl) ?_
    refine gfX6_92 X hH ho dX6_type_14 ?_
    refine lv_sipush (v := 200) X.hx X.hb dX6_type_17 (by decide) ?_
    refine lv_icmp_ne (tgt := 26) X.hx X.hb dX6_type_20 (by decide) (fun c8 => ?_) (fun c8 => ?_)
    · have hf := it_n hf c8
      refine lv_aload_n X.hx X.hb dX6_type_26 rfl (lv_at hl 0 rfl) ?_
      refine gfX6_45 X hH ho dX6_type_27 ?_
      refine lv_aload_n X.hx X.hb dX6_type_30 rfl (lv_at hl 0 rfl) ?_
      refine gfX6_92 X hH ho dX6_type_31 ?_
      refine lv_iload_n X.hx X.hb dX6_type_34 rfl (lv_at hl 1 rfl) ?_
      obtain ⟨hg, hf⟩ := gd_e hf
      refine g_iast X hH hS ⟨_, ho, rfl⟩ hg dX6_type_35 (fun H locs hH hS => ?_)
      obtain ⟨σ9, he, hf⟩ := stp_e hf
      rw [← he] at hH
      clear he
      refine lv_aload_n X.hx X.hb dX6_type_36 rfl (lv_at hl 0 rfl) ?_
      refine lv_dup X.hx X.hb dX6_type_37 rfl ?_
      refine gfX6_92 X hH ho dX6_type_38 ?_
      refine lv_iconst (v := 1) X.hx X.hb dX6_type_41 (by decide) ?_
      refine lv_iadd X.hx X.hb dX6_type_42 ?_
      refine pfX6_92 X hH hS ho  dX6_type_43 (fun H locs hH hS => ?_)
      obtain ⟨σ10, he, hf⟩ := stp_e hf
      rw [← he] at hH
      clear he
      refine lv_aload_n X.hx X.hb dX6_type_46 rfl (lv_at hl 0 rfl) ?_
      refine gfX6_92 X hH ho dX6_type_47 ?_
      have e := so2 hf
      rw [e.2] at hH
      exact g_iret X hH hS rfl e.1 dX6_type_50
    · have hf := it_p hf c8
      refine lv_bipush (v := -3) X.hx X.hb dX6_type_23 (by decide) ?_
      have e := so2 hf
      rw [e.2] at hH
      exact g_iret X hH hS rfl e.1 dX6_type_25
  · have hf := it_p hf c7
    refine lv_iconst (v := -1) X.hx X.hb dX6_type_11 (by decide) ?_
    have e := so2 hf
    rw [e.2] at hH
    exact g_iret X hH hS rfl e.1 dX6_type_12
set_option maxRecDepth 20000 in
set_option maxHeartbeats 4000000 in
theorem kX6_clear (l : Launch) {G : gG} {σ : Mem} {r : Int32} {σ' : Mem} {o : Nat} (ho : gsh G o = some 6)  (hf : fX6_clear σ o = some (r, σ')) : CM l yX6_clear cX6_clear 2 (some .int) 0 0 G σ [.ref (gad G o 0)] (some (.int r)) σ' := by
  refine CM.of (by decide) (Nat.le_of_ble_eq_true rfl) (fun p e s m below meth c ls X hH hl => ?_)
  have X : gX p s m _ meth c yX6_clear cX6_clear 2 (some .int) RX6 G := X
  have hS : va_S (gAA G) s.heap s.heap [] := va_S.rf
  have hl : lv_has ls 2 [(0, .ref (gad G o 0))] := hl
  rw [fX6_clear.eq_1] at hf
  refine lv_aload_n X.hx X.hb dX6_clear_0 rfl (lv_at hl 0 rfl) ?_
  refine gfX6_92 X hH ho dX6_clear_1 ?_
  refine lv_istore_n (lv' := [(1, .int (mI σ o 18)), (0, .ref (gad G o 0))]) X.hx X.hb dX6_clear_4 rfl hl (by decide) rfl (fun ls hl => ?_)
  refine lv_aload_n X.hx X.hb dX6_clear_5 rfl (lv_at hl 1 rfl) ?_
  refine lv_iconst (v := 0) X.hx X.hb dX6_clear_6 (by decide) ?_
  refine pfX6_92 X hH hS ho  dX6_clear_7 (fun H locs hH hS => ?_)
  obtain ⟨σ2, he, hf⟩ := stp_e hf
  rw [← he] at hH
  clear he
  refine lv_iload_n X.hx X.hb dX6_clear_10 rfl (lv_at hl 0 rfl) ?_
  have e := so2 hf
  rw [e.2] at hH
  exact g_iret X hH hS rfl e.1 dX6_clear_11
set_option maxRecDepth 20000 in
set_option maxHeartbeats 4000000 in
theorem kX6_letterAt (l : Launch) {G : gG} {σ : Mem} {r : Int32} {o : Nat} {x1 : Int32} (ho : gsh G o = some 6)  (hf : fX6_letterAt σ o x1 = some r) : CM l yX6_letterAt cX6_letterAt 2 (some .int) 0 0 G σ [.ref (gad G o 0), .int x1] (some (.int r)) σ := by
  refine CM.of (by decide) (Nat.le_of_ble_eq_true rfl) (fun p e s m below meth c ls X hH hl => ?_)
  have X : gX p s m _ meth c yX6_letterAt cX6_letterAt 2 (some .int) RX6 G := X
  have hS : va_S (gAA G) s.heap s.heap [] := va_S.rf
  have hl : lv_has ls 2 [(0, .ref (gad G o 0)), (1, .int x1)] := hl
  rw [fX6_letterAt.eq_1] at hf
  refine lv_iload_n X.hx X.hb dX6_letterAt_0 rfl (lv_at hl 1 rfl) ?_
  refine lv_aload_n X.hx X.hb dX6_letterAt_1 rfl (lv_at hl 0 rfl) ?_
  refine gfX6_92 X hH ho dX6_letterAt_2 ?_
  refine lv_icmp_ge (tgt := 17) X.hx X.hb dX6_letterAt_5 (by decide) (fun c2 => ?_) (fun c2 => ?_)
  · have hf := it_p hf c2
    refine lv_iconst (v := -1) X.hx X.hb dX6_letterAt_17 (by decide) ?_
    exact g_iret X hH hS rfl (so1 hf) dX6_letterAt_18
  · have hf := it_n hf c2
    refine lv_aload_n X.hx X.hb dX6_letterAt_8 rfl (lv_at hl 0 rfl) ?_
    refine gfX6_45 X hH ho dX6_letterAt_9 ?_
    refine lv_iload_n X.hx X.hb dX6_letterAt_12 rfl (lv_at hl 1 rfl) ?_
    obtain ⟨hg, hf⟩ := gd_e hf
    refine g_iald X hH ⟨_, ho, rfl⟩ hg dX6_letterAt_13 ?_
    refine lv_goto (tgt := 18) X.hx X.hb dX6_letterAt_14 (by decide) ?_
    exact g_iret X hH hS rfl (so1 hf) dX6_letterAt_18
set_option maxRecDepth 20000 in
set_option maxHeartbeats 4000000 in
theorem bX6_next_257 {p : Program} {l : Launch} {e : Env} {s : State} {m : MethodId} {args : Array Value} {below : List Frame} {meth : Method} {c : Code} {G : gG} (X : gX p s m args meth c yX6_next cX6_next 3 none RX6 G) {o : Nat} (ho : gsh G o = some 6)  {σ' : Mem} : (∀ (σ : Mem) (xs0 : Int32), fX6_next_257 o σ xs0 = some σ' → ∀ (H : Heap) (locs : List Loc) (ls : Array Slot), gH G σ H → va_S (gAA G) s.heap H locs → lv_has ls 3 [(0, .ref (gad G o 0))] → WB p l e 1 22 s m args below meth c G none σ' H locs (F0 m 257 ls [.int xs0])) := by
  intro σ xs0 hf H locs ls hH hS hl
  rw [fX6_next_257.eq_1] at hf
  refine lv_istore_n (lv' := [(2, .int xs0), (0, .ref (gad G o 0))]) X.hx X.hb dX6_next_257 rfl hl (by decide) rfl (fun ls hl => ?_)
  refine lv_aload_n X.hx X.hb dX6_next_258 rfl (lv_at hl 1 rfl) ?_
  refine lv_iload_n X.hx X.hb dX6_next_259 rfl (lv_at hl 0 rfl) ?_
  refine lv_if_eq (tgt := 267) X.hx X.hb dX6_next_260 (by decide) (fun c36 => ?_) (fun c36 => ?_)
  · have hf := it_p hf c36
    refine lv_iconst (v := 4) X.hx X.hb dX6_next_267 (by decide) ?_
    refine pfX6_105 X hH hS ho  dX6_next_268 (fun H locs hH hS => ?_)
    obtain ⟨σ37, he, hf⟩ := stp_e hf
    rw [← he] at hH
    clear he
    have e := so1 hf
    rw [e] at hH
    exact g_vret X hH hS rfl dX6_next_271
  · have hf := it_n hf c36
    refine lv_iconst (v := 2) X.hx X.hb dX6_next_263 (by decide) ?_
    refine lv_goto (tgt := 268) X.hx X.hb dX6_next_264 (by decide) ?_
    refine pfX6_105 X hH hS ho  dX6_next_268 (fun H locs hH hS => ?_)
    obtain ⟨σ38, he, hf⟩ := stp_e hf
    rw [← he] at hH
    clear he
    have e := so1 hf
    rw [e] at hH
    exact g_vret X hH hS rfl dX6_next_271
set_option maxRecDepth 20000 in
set_option maxHeartbeats 4000000 in
theorem bX6_next_136 {p : Program} {l : Launch} {e : Env} {s : State} {m : MethodId} {args : Array Value} {below : List Frame} {meth : Method} {c : Code} {G : gG} (X : gX p s m args meth c yX6_next cX6_next 3 none RX6 G) {o : Nat} (ho : gsh G o = some 6)  {σ' : Mem} : (∀ (n : Nat) (σ : Mem) (x1 : Int32), fX6_next_136 o n σ x1 = some σ' → ∀ (H : Heap) (locs : List Loc) (ls : Array Slot), gH G σ H → va_S (gAA G) s.heap H locs → lv_has ls 3 [(0, .ref (gad G o 0)), (1, .int x1)] → WB p l e 1 22 s m args below meth c G none σ' H locs (F0 m 136 ls [])) := by
  intro n
  induction n with
  | zero => intro σ x1 hf H locs ls hH hS hl; exact nomatch (show (none : Option Mem) = some _ from hf)
  | succ n ih =>
    intro σ x1 hf H locs ls hH hS hl
    rw [fX6_next_136.eq_2] at hf
    refine lv_aload_n X.hx X.hb dX6_next_136 rfl (lv_at hl 0 rfl) ?_
    refine lv_aload_n X.hx X.hb dX6_next_137 rfl (lv_at hl 0 rfl) ?_
    refine gfX6_95 X hH ho dX6_next_138 ?_
    obtain ⟨r39, hr, hf⟩ := bd_e hf
    refine g_callVI (As := [.int (mI σ o 19)]) (rest := []) X (kX6_letterAt l ho hr) (C := RX6) (T := TX6) (N := 39) (ci := 6) rfl ho ⟨cdX6_letterAt, mlX6_98, imX6_letterAt, seX6_letterAt, iniX6⟩ hvX6_letterAt ⟨Nat.le_of_ble_eq_true rfl, Nat.le_of_ble_eq_true rfl⟩ hH hS hl rfl rfl (Nat.le_of_ble_eq_true rfl) ⟨Nat.le_refl 0, Nat.le_refl 0⟩ dX6_next_141 (fun H locs hH hS => ?_)
    refine lv_bipush (v := 48) X.hx X.hb dX6_next_144 (by decide) ?_
    refine lv_bipush (v := 57) X.hx X.hb dX6_next_146 (by decide) ?_
    obtain ⟨r40, hr, hf⟩ := bd_e hf
    refine g_callSI (As := [.int r39, .int (48 : Int32), .int (57 : Int32)]) (rest := []) X (kX6_in l  hr) ⟨cdX6_in, mlX6_85, stX6_in, iniX6⟩ hsX6_in ⟨Nat.le_of_ble_eq_true rfl, Nat.le_of_ble_eq_true rfl⟩ hH hS hl rfl rfl (Nat.le_of_ble_eq_true rfl) ⟨Nat.le_refl 0, Nat.le_refl 0⟩ dX6_next_148 (fun H locs hH hS => ?_)
    refine lv_if_eq (tgt := 210) X.hx X.hb dX6_next_151 (by decide) (fun c41 => ?_) (fun c41 => ?_)
    · have hf := it_p hf c41
      refine lv_aload_n X.hx X.hb dX6_next_210 rfl (lv_at hl 0 rfl) ?_
      refine gfX6_95 X hH ho dX6_next_211 ?_
      refine lv_aload_n X.hx X.hb dX6_next_214 rfl (lv_at hl 0 rfl) ?_
      refine gfX6_102 X hH ho dX6_next_215 ?_
      refine lv_isub X.hx X.hb dX6_next_218 ?_
      refine lv_iconst (v := 5) X.hx X.hb dX6_next_219 (by decide) ?_
      refine lv_icmp_ge (tgt := 256) X.hx X.hb dX6_next_220 (by decide) (fun c42 => ?_) (fun c42 => ?_)
      · have hf := it_p hf c42
        refine lv_iconst (v := 0) X.hx X.hb dX6_next_256 (by decide) ?_
        exact bX6_next_257 X  ho   _ _  hf _ _ _ hH hS (lv_sub hl [0] rfl)
      · have hf := it_n hf c42
        refine lv_aload_n X.hx X.hb dX6_next_223 rfl (lv_at hl 0 rfl) ?_
        refine gfX6_108 X hH ho dX6_next_224 ?_
        refine lv_sipush (v := 1024) X.hx X.hb dX6_next_227 (by decide) ?_
        refine lv_icmp_ge (tgt := 256) X.hx X.hb dX6_next_230 (by decide) (fun c43 => ?_) (fun c43 => ?_)
        · have hf := it_p hf c43
          refine lv_iconst (v := 0) X.hx X.hb dX6_next_256 (by decide) ?_
          exact bX6_next_257 X  ho   _ _  hf _ _ _ hH hS (lv_sub hl [0] rfl)
        · have hf := it_n hf c43
          refine lv_iload_n X.hx X.hb dX6_next_233 rfl (lv_at hl 1 rfl) ?_
          refine lv_bipush (v := 48) X.hx X.hb dX6_next_234 (by decide) ?_
          refine lv_icmp_ne (tgt := 252) X.hx X.hb dX6_next_236 (by decide) (fun c44 => ?_) (fun c44 => ?_)
          · have hf := it_n hf c44
            refine lv_iconst (v := 1) X.hx X.hb dX6_next_252 (by decide) ?_
            refine lv_goto (tgt := 257) X.hx X.hb dX6_next_253 (by decide) ?_
            exact bX6_next_257 X  ho   _ _  hf _ _ _ hH hS (lv_sub hl [0] rfl)
          · have hf := it_p hf c44
            refine lv_aload_n X.hx X.hb dX6_next_239 rfl (lv_at hl 0 rfl) ?_
            refine gfX6_95 X hH ho dX6_next_240 ?_
            refine lv_aload_n X.hx X.hb dX6_next_243 rfl (lv_at hl 0 rfl) ?_
            refine gfX6_102 X hH ho dX6_next_244 ?_
            refine lv_isub X.hx X.hb dX6_next_247 ?_
            refine lv_iconst (v := 1) X.hx X.hb dX6_next_248 (by decide) ?_
            refine lv_icmp_ne (tgt := 256) X.hx X.hb dX6_next_249 (by decide) (fun c45 => ?_) (fun c45 => ?_)
            · have hf := it_n hf c45
              refine lv_iconst (v := 0) X.hx X.hb dX6_next_256 (by decide) ?_
              exact bX6_next_257 X  ho   _ _  hf _ _ _ hH hS (lv_sub hl [0] rfl)
            · have hf := it_p hf c45
              refine lv_iconst (v := 1) X.hx X.hb dX6_next_252 (by decide) ?_
              refine lv_goto (tgt := 257) X.hx X.hb dX6_next_253 (by decide) ?_
              exact bX6_next_257 X  ho   _ _  hf _ _ _ hH hS (lv_sub hl [0] rfl)
    · have hf := it_n hf c41
      refine lv_aload_n X.hx X.hb dX6_next_154 rfl (lv_at hl 0 rfl) ?_
      refine lv_aload_n X.hx X.hb dX6_next_155 rfl (lv_at hl 0 rfl) ?_
      refine gfX6_95 X hH ho dX6_next_156 ?_
      refine lv_aload_n X.hx X.hb dX6_next_159 rfl (lv_at hl 0 rfl) ?_
      refine gfX6_102 X hH ho dX6_next_160 ?_
      refine lv_isub X.hx X.hb dX6_next_163 ?_
      refine lv_iconst (v := 4) X.hx X.hb dX6_next_164 (by decide) ?_
      refine lv_icmp_ge (tgt := 190) X.hx X.hb dX6_next_165 (by decide) (fun c46 => ?_) (fun c46 => ?_)
      · have hf := it_p hf c46
        refine lv_aload_n X.hx X.hb dX6_next_190 rfl (lv_at hl 0 rfl) ?_
        refine gfX6_108 X hH ho dX6_next_191 ?_
        refine pfX6_108 X hH hS ho  dX6_next_194 (fun H locs hH hS => ?_)
        obtain ⟨σ47, he, hf⟩ := stp_e hf
        rw [← he] at hH
        clear he
        refine lv_aload_n X.hx X.hb dX6_next_197 rfl (lv_at hl 0 rfl) ?_
        refine lv_dup X.hx X.hb dX6_next_198 rfl ?_
        refine gfX6_95 X hH ho dX6_next_199 ?_
        refine lv_iconst (v := 1) X.hx X.hb dX6_next_202 (by decide) ?_
        refine lv_iadd X.hx X.hb dX6_next_203 ?_
        refine pfX6_95 X hH hS ho  dX6_next_204 (fun H locs hH hS => ?_)
        obtain ⟨σ48, he, hf⟩ := stp_e hf
        rw [← he] at hH
        clear he
        refine lv_goto (tgt := 136) X.hx X.hb dX6_next_207 (by decide) ?_
        exact ih _ _  hf _ _ _ hH hS (lv_sub hl [0, 1] rfl)
      · have hf := it_n hf c46
        refine lv_bipush (v := 10) X.hx X.hb dX6_next_168 (by decide) ?_
        refine lv_aload_n X.hx X.hb dX6_next_170 rfl (lv_at hl 0 rfl) ?_
        refine gfX6_108 X hH ho dX6_next_171 ?_
        refine lv_imul X.hx X.hb dX6_next_174 ?_
        refine lv_aload_n X.hx X.hb dX6_next_175 rfl (lv_at hl 0 rfl) ?_
        refine lv_aload_n X.hx X.hb dX6_next_176 rfl (lv_at hl 0 rfl) ?_
        refine gfX6_95 X hH ho dX6_next_177 ?_
        obtain ⟨r49, hr, hf⟩ := bd_e hf
        refine g_callVI (As := [.int (mI σ o 19)]) (rest := [.int ((10 : Int32) * (mI σ o 22)), .ref (gad G o 0)]) X (kX6_letterAt l ho hr) (C := RX6) (T := TX6) (N := 39) (ci := 6) rfl ho ⟨cdX6_letterAt, mlX6_98, imX6_letterAt, seX6_letterAt, iniX6⟩ hvX6_letterAt ⟨Nat.le_of_ble_eq_true rfl, Nat.le_of_ble_eq_true rfl⟩ hH hS hl rfl rfl (Nat.le_of_ble_eq_true rfl) ⟨Nat.le_refl 0, Nat.le_refl 0⟩ dX6_next_180 (fun H locs hH hS => ?_)
        refine lv_iadd X.hx X.hb dX6_next_183 ?_
        refine lv_bipush (v := 48) X.hx X.hb dX6_next_184 (by decide) ?_
        refine lv_isub X.hx X.hb dX6_next_186 ?_
        refine lv_goto (tgt := 194) X.hx X.hb dX6_next_187 (by decide) ?_
        refine pfX6_108 X hH hS ho  dX6_next_194 (fun H locs hH hS => ?_)
        obtain ⟨σ50, he, hf⟩ := stp_e hf
        rw [← he] at hH
        clear he
        refine lv_aload_n X.hx X.hb dX6_next_197 rfl (lv_at hl 0 rfl) ?_
        refine lv_dup X.hx X.hb dX6_next_198 rfl ?_
        refine gfX6_95 X hH ho dX6_next_199 ?_
        refine lv_iconst (v := 1) X.hx X.hb dX6_next_202 (by decide) ?_
        refine lv_iadd X.hx X.hb dX6_next_203 ?_
        refine pfX6_95 X hH hS ho  dX6_next_204 (fun H locs hH hS => ?_)
        obtain ⟨σ51, he, hf⟩ := stp_e hf
        rw [← he] at hH
        clear he
        refine lv_goto (tgt := 136) X.hx X.hb dX6_next_207 (by decide) ?_
        exact ih _ _  hf _ _ _ hH hS (lv_sub hl [0, 1] rfl)
set_option maxRecDepth 20000 in
set_option maxHeartbeats 4000000 in
theorem bX6_next_114 {p : Program} {l : Launch} {e : Env} {s : State} {m : MethodId} {args : Array Value} {below : List Frame} {meth : Method} {c : Code} {G : gG} (X : gX p s m args meth c yX6_next cX6_next 3 none RX6 G) {o : Nat} (ho : gsh G o = some 6)  {σ' : Mem} : (∀ (σ : Mem) (x1 : Int32) (xs0 : Int32), fX6_next_114 o σ x1 xs0 = some σ' → ∀ (H : Heap) (locs : List Loc) (ls : Array Slot), gH G σ H → va_S (gAA G) s.heap H locs → lv_has ls 3 [(0, .ref (gad G o 0)), (1, .int x1)] → WB p l e 1 22 s m args below meth c G none σ' H locs (F0 m 114 ls [.int xs0, .ref (gad G o 0)])) := by
  intro σ x1 xs0 hf H locs ls hH hS hl
  rw [fX6_next_114.eq_1] at hf
  refine pfX6_105 X hH hS ho  dX6_next_114 (fun H locs hH hS => ?_)
  obtain ⟨σ52, he, hf⟩ := stp_e hf
  rw [← he] at hH
  clear he
  refine lv_iload_n X.hx X.hb dX6_next_117 rfl (lv_at hl 1 rfl) ?_
  refine lv_bipush (v := 48) X.hx X.hb dX6_next_118 (by decide) ?_
  refine lv_bipush (v := 57) X.hx X.hb dX6_next_120 (by decide) ?_
  obtain ⟨r53, hr, hf⟩ := bd_e hf
  refine g_callSI (As := [.int x1, .int (48 : Int32), .int (57 : Int32)]) (rest := []) X (kX6_in l  hr) ⟨cdX6_in, mlX6_85, stX6_in, iniX6⟩ hsX6_in ⟨Nat.le_of_ble_eq_true rfl, Nat.le_of_ble_eq_true rfl⟩ hH hS hl rfl rfl (Nat.le_of_ble_eq_true rfl) ⟨Nat.le_refl 0, Nat.le_refl 0⟩ dX6_next_122 (fun H locs hH hS => ?_)
  refine lv_if_eq (tgt := 271) X.hx X.hb dX6_next_125 (by decide) (fun c54 => ?_) (fun c54 => ?_)
  · have hf := it_p hf c54
    have e := so1 hf
    rw [e] at hH
    exact g_vret X hH hS rfl dX6_next_271
  · have hf := it_n hf c54
    refine lv_aload_n X.hx X.hb dX6_next_128 rfl (lv_at hl 0 rfl) ?_
    refine lv_iload_n X.hx X.hb dX6_next_129 rfl (lv_at hl 1 rfl) ?_
    refine lv_bipush (v := 48) X.hx X.hb dX6_next_130 (by decide) ?_
    refine lv_isub X.hx X.hb dX6_next_132 ?_
    refine pfX6_108 X hH hS ho  dX6_next_133 (fun H locs hH hS => ?_)
    obtain ⟨σ55, he, hf⟩ := stp_e hf
    rw [← he] at hH
    clear he
    exact bX6_next_136 X  ho  _ _ _  hf _ _ _ hH hS (lv_sub hl [0, 1] rfl)
set_option maxRecDepth 20000 in
set_option maxHeartbeats 4000000 in
theorem bX6_next_0 {p : Program} {l : Launch} {e : Env} {s : State} {m : MethodId} {args : Array Value} {below : List Frame} {meth : Method} {c : Code} {G : gG} (X : gX p s m args meth c yX6_next cX6_next 3 none RX6 G) {o : Nat} (ho : gsh G o = some 6)  {σ' : Mem} : (∀ (n : Nat) (σ : Mem), fX6_next_0 o n σ = some σ' → ∀ (H : Heap) (locs : List Loc) (ls : Array Slot), gH G σ H → va_S (gAA G) s.heap H locs → lv_has ls 3 [(0, .ref (gad G o 0))] → WB p l e 1 22 s m args below meth c G none σ' H locs (F0 m 0 ls [])) := by
  intro n
  induction n with
  | zero => intro σ hf H locs ls hH hS hl; exact nomatch (show (none : Option Mem) = some _ from hf)
  | succ n ih =>
    intro σ hf H locs ls hH hS hl
    rw [fX6_next_0.eq_2] at hf
    refine lv_aload_n X.hx X.hb dX6_next_0 rfl (lv_at hl 0 rfl) ?_
    refine lv_aload_n X.hx X.hb dX6_next_1 rfl (lv_at hl 0 rfl) ?_
    refine gfX6_95 X hH ho dX6_next_2 ?_
    obtain ⟨r56, hr, hf⟩ := bd_e hf
    refine g_callVI (As := [.int (mI σ o 19)]) (rest := []) X (kX6_letterAt l ho hr) (C := RX6) (T := TX6) (N := 39) (ci := 6) rfl ho ⟨cdX6_letterAt, mlX6_98, imX6_letterAt, seX6_letterAt, iniX6⟩ hvX6_letterAt ⟨Nat.le_of_ble_eq_true rfl, Nat.le_of_ble_eq_true rfl⟩ hH hS hl rfl rfl (Nat.le_of_ble_eq_true rfl) ⟨Nat.le_refl 0, Nat.le_refl 0⟩ dX6_next_5 (fun H locs hH hS => ?_)
    refine lv_bipush (v := 32) X.hx X.hb dX6_next_8 (by decide) ?_
    refine lv_icmp_ne (tgt := 26) X.hx X.hb dX6_next_10 (by decide) (fun c57 => ?_) (fun c57 => ?_)
    · have hf := it_n hf c57
      refine lv_aload_n X.hx X.hb dX6_next_26 rfl (lv_at hl 0 rfl) ?_
      refine lv_aload_n X.hx X.hb dX6_next_27 rfl (lv_at hl 0 rfl) ?_
      refine gfX6_95 X hH ho dX6_next_28 ?_
      refine pfX6_102 X hH hS ho  dX6_next_31 (fun H locs hH hS => ?_)
      obtain ⟨σ58, he, hf⟩ := stp_e hf
      rw [← he] at hH
      clear he
      refine lv_aload_n X.hx X.hb dX6_next_34 rfl (lv_at hl 0 rfl) ?_
      refine lv_aload_n X.hx X.hb dX6_next_35 rfl (lv_at hl 0 rfl) ?_
      refine gfX6_95 X hH ho dX6_next_36 ?_
      obtain ⟨r59, hr, hf⟩ := bd_e hf
      refine g_callVI (As := [.int (mI σ58 o 19)]) (rest := []) X (kX6_letterAt l ho hr) (C := RX6) (T := TX6) (N := 39) (ci := 6) rfl ho ⟨cdX6_letterAt, mlX6_98, imX6_letterAt, seX6_letterAt, iniX6⟩ hvX6_letterAt ⟨Nat.le_of_ble_eq_true rfl, Nat.le_of_ble_eq_true rfl⟩ hH hS hl rfl rfl (Nat.le_of_ble_eq_true rfl) ⟨Nat.le_refl 0, Nat.le_refl 0⟩ dX6_next_39 (fun H locs hH hS => ?_)
      refine lv_istore_n (lv' := [(1, .int r59), (0, .ref (gad G o 0))]) X.hx X.hb dX6_next_42 rfl hl (by decide) rfl (fun ls hl => ?_)
      refine lv_iload_n X.hx X.hb dX6_next_43 rfl (lv_at hl 0 rfl) ?_
      refine lv_if_ge (tgt := 53) X.hx X.hb dX6_next_44 (by decide) (fun c60 => ?_) (fun c60 => ?_)
      · have hf := it_p hf c60
        refine lv_aload_n X.hx X.hb dX6_next_53 rfl (lv_at hl 1 rfl) ?_
        refine lv_dup X.hx X.hb dX6_next_54 rfl ?_
        refine gfX6_95 X hH ho dX6_next_55 ?_
        refine lv_iconst (v := 1) X.hx X.hb dX6_next_58 (by decide) ?_
        refine lv_iadd X.hx X.hb dX6_next_59 ?_
        refine pfX6_95 X hH hS ho  dX6_next_60 (fun H locs hH hS => ?_)
        obtain ⟨σ61, he, hf⟩ := stp_e hf
        rw [← he] at hH
        clear he
        refine lv_aload_n X.hx X.hb dX6_next_63 rfl (lv_at hl 1 rfl) ?_
        refine lv_iload_n X.hx X.hb dX6_next_64 rfl (lv_at hl 0 rfl) ?_
        refine pfX6_108 X hH hS ho  dX6_next_65 (fun H locs hH hS => ?_)
        obtain ⟨σ62, he, hf⟩ := stp_e hf
        rw [← he] at hH
        clear he
        refine lv_aload_n X.hx X.hb dX6_next_68 rfl (lv_at hl 1 rfl) ?_
        refine lv_iload_n X.hx X.hb dX6_next_69 rfl (lv_at hl 0 rfl) ?_
        refine lv_bipush (v := 113) X.hx X.hb dX6_next_70 (by decide) ?_
        refine lv_icmp_eq (tgt := 99) X.hx X.hb dX6_next_72 (by decide) (fun c63 => ?_) (fun c63 => ?_)
        · have hf := it_p hf c63
          refine lv_iconst (v := 1) X.hx X.hb dX6_next_99 (by decide) ?_
          refine lv_goto (tgt := 114) X.hx X.hb dX6_next_100 (by decide) ?_
          exact bX6_next_114 X  ho   _ _ _  hf _ _ _ hH hS (lv_sub hl [1, 0] rfl)
        · have hf := it_n hf c63
          refine lv_iload_n X.hx X.hb dX6_next_75 rfl (lv_at hl 0 rfl) ?_
          refine lv_bipush (v := 114) X.hx X.hb dX6_next_76 (by decide) ?_
          refine lv_icmp_eq (tgt := 99) X.hx X.hb dX6_next_78 (by decide) (fun c64 => ?_) (fun c64 => ?_)
          · have hf := it_p hf c64
            refine lv_iconst (v := 1) X.hx X.hb dX6_next_99 (by decide) ?_
            refine lv_goto (tgt := 114) X.hx X.hb dX6_next_100 (by decide) ?_
            exact bX6_next_114 X  ho   _ _ _  hf _ _ _ hH hS (lv_sub hl [1, 0] rfl)
          · have hf := it_n hf c64
            refine lv_iload_n X.hx X.hb dX6_next_81 rfl (lv_at hl 0 rfl) ?_
            refine lv_bipush (v := 98) X.hx X.hb dX6_next_82 (by decide) ?_
            refine lv_icmp_eq (tgt := 99) X.hx X.hb dX6_next_84 (by decide) (fun c65 => ?_) (fun c65 => ?_)
            · have hf := it_p hf c65
              refine lv_iconst (v := 1) X.hx X.hb dX6_next_99 (by decide) ?_
              refine lv_goto (tgt := 114) X.hx X.hb dX6_next_100 (by decide) ?_
              exact bX6_next_114 X  ho   _ _ _  hf _ _ _ hH hS (lv_sub hl [1, 0] rfl)
            · have hf := it_n hf c65
              refine lv_iload_n X.hx X.hb dX6_next_87 rfl (lv_at hl 0 rfl) ?_
              refine lv_bipush (v := 116) X.hx X.hb dX6_next_88 (by decide) ?_
              refine lv_icmp_eq (tgt := 99) X.hx X.hb dX6_next_90 (by decide) (fun c66 => ?_) (fun c66 => ?_)
              · have hf := it_p hf c66
                refine lv_iconst (v := 1) X.hx X.hb dX6_next_99 (by decide) ?_
                refine lv_goto (tgt := 114) X.hx X.hb dX6_next_100 (by decide) ?_
                exact bX6_next_114 X  ho   _ _ _  hf _ _ _ hH hS (lv_sub hl [1, 0] rfl)
              · have hf := it_n hf c66
                refine lv_iload_n X.hx X.hb dX6_next_93 rfl (lv_at hl 0 rfl) ?_
                refine lv_bipush (v := 107) X.hx X.hb dX6_next_94 (by decide) ?_
                refine lv_icmp_ne (tgt := 103) X.hx X.hb dX6_next_96 (by decide) (fun c67 => ?_) (fun c67 => ?_)
                · have hf := it_n hf c67
                  refine lv_iload_n X.hx X.hb dX6_next_103 rfl (lv_at hl 0 rfl) ?_
                  refine lv_bipush (v := 59) X.hx X.hb dX6_next_104 (by decide) ?_
                  refine lv_icmp_ne (tgt := 113) X.hx X.hb dX6_next_106 (by decide) (fun c68 => ?_) (fun c68 => ?_)
                  · have hf := it_n hf c68
                    refine lv_iconst (v := 4) X.hx X.hb dX6_next_113 (by decide) ?_
                    exact bX6_next_114 X  ho   _ _ _  hf _ _ _ hH hS (lv_sub hl [1, 0] rfl)
                  · have hf := it_p hf c68
                    refine lv_iconst (v := 3) X.hx X.hb dX6_next_109 (by decide) ?_
                    refine lv_goto (tgt := 114) X.hx X.hb dX6_next_110 (by decide) ?_
                    exact bX6_next_114 X  ho   _ _ _  hf _ _ _ hH hS (lv_sub hl [1, 0] rfl)
                · have hf := it_p hf c67
                  refine lv_iconst (v := 1) X.hx X.hb dX6_next_99 (by decide) ?_
                  refine lv_goto (tgt := 114) X.hx X.hb dX6_next_100 (by decide) ?_
                  exact bX6_next_114 X  ho   _ _ _  hf _ _ _ hH hS (lv_sub hl [1, 0] rfl)
      · have hf := it_n hf c60
        refine lv_aload_n X.hx X.hb dX6_next_47 rfl (lv_at hl 1 rfl) ?_
        refine lv_iconst (v := 0) X.hx X.hb dX6_next_48 (by decide) ?_
        refine pfX6_105 X hH hS ho  dX6_next_49 (fun H locs hH hS => ?_)
        obtain ⟨σ69, he, hf⟩ := stp_e hf
        rw [← he] at hH
        clear he
        have e := so1 hf
        rw [e] at hH
        exact g_vret X hH hS rfl dX6_next_52
    · have hf := it_p hf c57
      refine lv_aload_n X.hx X.hb dX6_next_13 rfl (lv_at hl 0 rfl) ?_
      refine lv_dup X.hx X.hb dX6_next_14 rfl ?_
      refine gfX6_95 X hH ho dX6_next_15 ?_
      refine lv_iconst (v := 1) X.hx X.hb dX6_next_18 (by decide) ?_
      refine lv_iadd X.hx X.hb dX6_next_19 ?_
      refine pfX6_95 X hH hS ho  dX6_next_20 (fun H locs hH hS => ?_)
      obtain ⟨σ70, he, hf⟩ := stp_e hf
      rw [← he] at hH
      clear he
      refine lv_goto (tgt := 0) X.hx X.hb dX6_next_23 (by decide) ?_
      exact ih _  hf _ _ _ hH hS (lv_sub hl [0] rfl)
set_option maxRecDepth 20000 in
set_option maxHeartbeats 4000000 in
theorem kX6_next (l : Launch) {G : gG} {σ : Mem} {σ' : Mem} {o : Nat} (ho : gsh G o = some 6)  (hf : fX6_next σ o = some σ') : CM l yX6_next cX6_next 3 none 1 22 G σ [.ref (gad G o 0)] none σ' := by
  refine CM.of (by decide) (Nat.le_of_ble_eq_true rfl) (fun p e s m below meth c ls X hH hl => ?_)
  have X : gX p s m _ meth c yX6_next cX6_next 3 none RX6 G := X
  have hS : va_S (gAA G) s.heap s.heap [] := va_S.rf
  have hl : lv_has ls 3 [(0, .ref (gad G o 0))] := hl
  rw [fX6_next.eq_1] at hf
  exact bX6_next_0 X  ho  _ _  hf _ _ _ hH hS (lv_sub hl [0] rfl)
set_option maxRecDepth 20000 in
set_option maxHeartbeats 4000000 in
theorem bX6_must_17 {p : Program} {l : Launch} {e : Env} {s : State} {m : MethodId} {args : Array Value} {below : List Frame} {meth : Method} {c : Code} {G : gG} (X : gX p s m args meth c yX6_must cX6_must 2 none RX6 G) {o : Nat} (ho : gsh G o = some 6)  {σ' : Mem} : (∀ (σ : Mem) (xs0 : Int32), fX6_must_17 o σ xs0 = some σ' → ∀ (H : Heap) (locs : List Loc) (ls : Array Slot), gH G σ H → va_S (gAA G) s.heap H locs → lv_has ls 2 [(0, .ref (gad G o 0))] → WB p l e 2 44 s m args below meth c G none σ' H locs (F0 m 17 ls [.int xs0, .ref (gad G o 0)])) := by
  intro σ xs0 hf H locs ls hH hS hl
  rw [fX6_must_17.eq_1] at hf
  obtain ⟨hg, hf⟩ := gd_e hf
  refine pfX6_111 X hH hS ho (zb_e hg) dX6_must_17 (fun H locs hH hS => ?_)
  obtain ⟨σ6, he, hf⟩ := stp_e hf
  rw [← he] at hH
  clear he
  refine lv_aload_n X.hx X.hb dX6_must_20 rfl (lv_at hl 0 rfl) ?_
  refine gfX6_111 X hH ho dX6_must_21 ?_
  refine lv_if_ne (tgt := 31) X.hx X.hb dX6_must_24 (by decide) (fun c7 => ?_) (fun c7 => ?_)
  · have hf := it_n hf c7
    have e := so1 hf
    rw [e] at hH
    exact g_vret X hH hS rfl dX6_must_31
  · have hf := it_p hf c7
    refine lv_aload_n X.hx X.hb dX6_must_27 rfl (lv_at hl 0 rfl) ?_
    obtain ⟨σ8, hr, hf⟩ := bd_e hf
    refine g_callVV (As := []) (rest := []) X (kX6_next l ho hr) (C := RX6) (T := TX6) (N := 39) (ci := 6) rfl ho ⟨cdX6_next, mlX6_115, imX6_next, seX6_next, iniX6⟩ hvX6_next ⟨Nat.le_of_ble_eq_true rfl, Nat.le_of_ble_eq_true rfl⟩ hH hS hl rfl rfl (Nat.le_of_ble_eq_true rfl) ⟨Nat.le_refl 0, Nat.le_refl 0⟩ dX6_must_28 (fun H locs hH hS => ?_)
    have e := so1 hf
    rw [e] at hH
    exact g_vret X hH hS rfl dX6_must_31
set_option maxRecDepth 20000 in
set_option maxHeartbeats 4000000 in
theorem kX6_must (l : Launch) {G : gG} {σ : Mem} {σ' : Mem} {o : Nat} {x1 : Int32} (ho : gsh G o = some 6)  (hf : fX6_must σ o x1 = some σ') : CM l yX6_must cX6_must 2 none 2 44 G σ [.ref (gad G o 0), .int x1] none σ' := by
  refine CM.of (by decide) (Nat.le_of_ble_eq_true rfl) (fun p e s m below meth c ls X hH hl => ?_)
  have X : gX p s m _ meth c yX6_must cX6_must 2 none RX6 G := X
  have hS : va_S (gAA G) s.heap s.heap [] := va_S.rf
  have hl : lv_has ls 2 [(0, .ref (gad G o 0)), (1, .int x1)] := hl
  rw [fX6_must.eq_1] at hf
  refine lv_aload_n X.hx X.hb dX6_must_0 rfl (lv_at hl 0 rfl) ?_
  refine lv_aload_n X.hx X.hb dX6_must_1 rfl (lv_at hl 0 rfl) ?_
  refine gfX6_111 X hH ho dX6_must_2 ?_
  refine lv_if_ne (tgt := 12) X.hx X.hb dX6_must_5 (by decide) (fun c9 => ?_) (fun c9 => ?_)
  · have hf := it_n hf c9
    refine lv_iconst (v := 1) X.hx X.hb dX6_must_12 (by decide) ?_
    refine lv_goto (tgt := 17) X.hx X.hb dX6_must_13 (by decide) ?_
    exact bX6_must_17 X  ho   _ _  hf _ _ _ hH hS (lv_sub hl [0] rfl)
  · have hf := it_p hf c9
    refine lv_iload_n X.hx X.hb dX6_must_8 rfl (lv_at hl 1 rfl) ?_
    refine lv_if_ne (tgt := 16) X.hx X.hb dX6_must_9 (by decide) (fun c10 => ?_) (fun c10 => ?_)
    · have hf := it_n hf c10
      refine lv_iconst (v := 0) X.hx X.hb dX6_must_16 (by decide) ?_
      exact bX6_must_17 X  ho   _ _  hf _ _ _ hH hS (lv_sub hl [0] rfl)
    · have hf := it_p hf c10
      refine lv_iconst (v := 1) X.hx X.hb dX6_must_12 (by decide) ?_
      refine lv_goto (tgt := 17) X.hx X.hb dX6_must_13 (by decide) ?_
      exact bX6_must_17 X  ho   _ _  hf _ _ _ hH hS (lv_sub hl [0] rfl)
set_option maxRecDepth 20000 in
set_option maxHeartbeats 4000000 in
theorem bX6_readInto_31 {p : Program} {l : Launch} {e : Env} {s : State} {m : MethodId} {args : Array Value} {below : List Frame} {meth : Method} {c : Code} {G : gG} (X : gX p s m args meth c yX6_readInto cX6_readInto 6 (some .int) RX6 G) {o : Nat} (ho : gsh G o = some 6)  {r : Int32} {σ' : Mem} : (∀ (σ : Mem) (a1 : Nat) (b1 : Nat) (n1 : Nat) (x2 : Int32) (x5 : Int32) (xs0 : Int32), gvA G a1 b1 4 n1 → fX6_readInto_31 o σ a1 b1 n1 x2 x5 xs0 = some (r, σ') → ∀ (H : Heap) (locs : List Loc) (ls : Array Slot), gH G σ H → va_S (gAA G) s.heap H locs → lv_has ls 6 [(0, .ref (gad G o 0)), (1, .ref (gad G a1 (b1 + 1))), (2, .int x2), (5, .int x5)] → WB p l e 3 65 s m args below meth c G (some (.int r)) σ' H locs (F0 m 31 ls [.int xs0, .ref (gad G o 0)])) := by
  intro σ a1 b1 n1 x2 x5 xs0 ha1 hf H locs ls hH hS hl
  rw [fX6_readInto_31.eq_1] at hf
  obtain ⟨σ7, hr, hf⟩ := bd_e hf
  refine g_callVV (As := [.int xs0]) (rest := []) X (kX6_must l ho hr) (C := RX6) (T := TX6) (N := 39) (ci := 6) rfl ho ⟨cdX6_must, mlX6_118, imX6_must, seX6_must, iniX6⟩ hvX6_must ⟨Nat.le_of_ble_eq_true rfl, Nat.le_of_ble_eq_true rfl⟩ hH hS hl rfl rfl (Nat.le_of_ble_eq_true rfl) ⟨Nat.le_refl 0, Nat.le_refl 0⟩ dX6_readInto_31 (fun H locs hH hS => ?_)
  refine lv_aload_n X.hx X.hb dX6_readInto_34 rfl (lv_at hl 0 rfl) ?_
  refine gfX6_111 X hH ho dX6_readInto_35 ?_
  refine lv_if_ne (tgt := 46) X.hx X.hb dX6_readInto_38 (by decide) (fun c8 => ?_) (fun c8 => ?_)
  · have hf := it_n hf c8
    refine lv_iload X.hx X.hb dX6_readInto_46 (lv_at hl 3 rfl) ?_
    have e := so2 hf
    rw [e.2] at hH
    exact g_iret X hH hS rfl e.1 dX6_readInto_48
  · have hf := it_p hf c8
    refine lv_aload_n X.hx X.hb dX6_readInto_41 rfl (lv_at hl 1 rfl) ?_
    refine lv_iload_n X.hx X.hb dX6_readInto_42 rfl (lv_at hl 2 rfl) ?_
    refine lv_iload X.hx X.hb dX6_readInto_43 (lv_at hl 3 rfl) ?_
    obtain ⟨hg, hf⟩ := gd_e hf
    refine g_iast X hH hS ha1 hg dX6_readInto_45 (fun H locs hH hS => ?_)
    obtain ⟨σ9, he, hf⟩ := stp_e hf
    rw [← he] at hH
    clear he
    refine lv_iload X.hx X.hb dX6_readInto_46 (lv_at hl 3 rfl) ?_
    have e := so2 hf
    rw [e.2] at hH
    exact g_iret X hH hS rfl e.1 dX6_readInto_48
set_option maxRecDepth 20000 in
set_option maxHeartbeats 4000000 in
theorem kX6_readInto (l : Launch) {G : gG} {σ : Mem} {r : Int32} {σ' : Mem} {o : Nat} {a1 b1 n1 : Nat} {x2 : Int32} {x3 : Int32} {x4 : Int32} (ho : gsh G o = some 6) (ha1 : gvA G a1 b1 4 n1) (hf : fX6_readInto σ o a1 b1 n1 x2 x3 x4 = some (r, σ')) : CM l yX6_readInto cX6_readInto 6 (some .int) 3 65 G σ [.ref (gad G o 0), .ref (gad G a1 (b1 + 1)), .int x2, .int x3, .int x4] (some (.int r)) σ' := by
  refine CM.of (by decide) (Nat.le_of_ble_eq_true rfl) (fun p e s m below meth c ls X hH hl => ?_)
  have X : gX p s m _ meth c yX6_readInto cX6_readInto 6 (some .int) RX6 G := X
  have hS : va_S (gAA G) s.heap s.heap [] := va_S.rf
  have hl : lv_has ls 6 [(0, .ref (gad G o 0)), (1, .ref (gad G a1 (b1 + 1))), (2, .int x2), (3, .int x3), (4, .int x4)] := hl
  rw [fX6_readInto.eq_1] at hf
  refine lv_aload_n X.hx X.hb dX6_readInto_0 rfl (lv_at hl 0 rfl) ?_
  refine gfX6_108 X hH ho dX6_readInto_1 ?_
  refine lv_istore (lv' := [(5, .int (mI σ o 22)), (0, .ref (gad G o 0)), (1, .ref (gad G a1 (b1 + 1))), (2, .int x2), (3, .int x3), (4, .int x4)]) X.hx X.hb dX6_readInto_4 hl (by decide) rfl (fun ls hl => ?_)
  refine lv_aload_n X.hx X.hb dX6_readInto_6 rfl (lv_at hl 1 rfl) ?_
  refine lv_aload_n X.hx X.hb dX6_readInto_7 rfl (lv_at hl 1 rfl) ?_
  refine gfX6_105 X hH ho dX6_readInto_8 ?_
  refine lv_iconst (v := 2) X.hx X.hb dX6_readInto_11 (by decide) ?_
  refine lv_icmp_ne (tgt := 30) X.hx X.hb dX6_readInto_12 (by decide) (fun c10 => ?_) (fun c10 => ?_)
  · have hf := it_n hf c10
    refine lv_iconst (v := 0) X.hx X.hb dX6_readInto_30 (by decide) ?_
    exact bX6_readInto_31 X  ho   _ _ _ _ _ _ _ ha1 hf _ _ _ hH hS (lv_sub hl [1, 2, 3, 0] rfl)
  · have hf := it_p hf c10
    refine lv_iload X.hx X.hb dX6_readInto_15 (lv_at hl 0 rfl) ?_
    refine lv_iload_n X.hx X.hb dX6_readInto_17 rfl (lv_at hl 4 rfl) ?_
    refine lv_iload X.hx X.hb dX6_readInto_18 (lv_at hl 5 rfl) ?_
    obtain ⟨r11, hr, hf⟩ := bd_e hf
    refine g_callSI (As := [.int (mI σ o 22), .int x3, .int x4]) (rest := [.ref (gad G o 0)]) X (kX6_in l  hr) ⟨cdX6_in, mlX6_85, stX6_in, iniX6⟩ hsX6_in ⟨Nat.le_of_ble_eq_true rfl, Nat.le_of_ble_eq_true rfl⟩ hH hS hl rfl rfl (Nat.le_of_ble_eq_true rfl) ⟨Nat.le_refl 0, Nat.le_refl 0⟩ dX6_readInto_20 (fun H locs hH hS => ?_)
    refine lv_if_eq (tgt := 30) X.hx X.hb dX6_readInto_23 (by decide) (fun c12 => ?_) (fun c12 => ?_)
    · have hf := it_p hf c12
      refine lv_iconst (v := 0) X.hx X.hb dX6_readInto_30 (by decide) ?_
      exact bX6_readInto_31 X  ho   _ _ _ _ _ _ _ ha1 hf _ _ _ hH hS (lv_sub hl [1, 2, 3, 0] rfl)
    · have hf := it_n hf c12
      refine lv_iconst (v := 1) X.hx X.hb dX6_readInto_26 (by decide) ?_
      refine lv_goto (tgt := 31) X.hx X.hb dX6_readInto_27 (by decide) ?_
      exact bX6_readInto_31 X  ho   _ _ _ _ _ _ _ ha1 hf _ _ _ hH hS (lv_sub hl [1, 2, 3, 0] rfl)
set_option maxRecDepth 20000 in
set_option maxHeartbeats 4000000 in
theorem bX6_readOne_54 {p : Program} {l : Launch} {e : Env} {s : State} {m : MethodId} {args : Array Value} {below : List Frame} {meth : Method} {c : Code} {G : gG} (X : gX p s m args meth c yX6_readOne cX6_readOne 3 none RX6 G) {o : Nat} (ho : gsh G o = some 6)  {σ' : Mem} : (∀ (σ : Mem) (x1 : Int32) (xs0 : Int32), fX6_readOne_54 o σ x1 xs0 = some σ' → ∀ (H : Heap) (locs : List Loc) (ls : Array Slot), gH G σ H → va_S (gAA G) s.heap H locs → lv_has ls 3 [(0, .ref (gad G o 0)), (1, .int x1)] → WB p l e 4 90 s m args below meth c G none σ' H locs (F0 m 54 ls [.int xs0, .ref (gad G o 0)])) := by
  intro σ x1 xs0 hf H locs ls hH hS hl
  rw [fX6_readOne_54.eq_1] at hf
  obtain ⟨σ10, hr, hf⟩ := bd_e hf
  refine g_callVV (As := [.int xs0]) (rest := []) X (kX6_must l ho hr) (C := RX6) (T := TX6) (N := 39) (ci := 6) rfl ho ⟨cdX6_must, mlX6_118, imX6_must, seX6_must, iniX6⟩ hvX6_must ⟨Nat.le_of_ble_eq_true rfl, Nat.le_of_ble_eq_true rfl⟩ hH hS hl rfl rfl (Nat.le_of_ble_eq_true rfl) ⟨Nat.le_refl 0, Nat.le_refl 0⟩ dX6_readOne_54 (fun H locs hH hS => ?_)
  refine lv_aload_n X.hx X.hb dX6_readOne_57 rfl (lv_at hl 0 rfl) ?_
  refine lv_dup X.hx X.hb dX6_readOne_58 rfl ?_
  refine gfX6_122 X hH ho dX6_readOne_59 ?_
  refine lv_iconst (v := 1) X.hx X.hb dX6_readOne_62 (by decide) ?_
  refine lv_iload_n X.hx X.hb dX6_readOne_63 rfl (lv_at hl 1 rfl) ?_
  refine lv_ishl X.hx X.hb dX6_readOne_64 ?_
  refine lv_ior X.hx X.hb dX6_readOne_65 ?_
  refine pfX6_122 X hH hS ho  dX6_readOne_66 (fun H locs hH hS => ?_)
  obtain ⟨σ11, he, hf⟩ := stp_e hf
  rw [← he] at hH
  clear he
  have e := so1 hf
  rw [e] at hH
  exact g_vret X hH hS rfl dX6_readOne_69
set_option maxRecDepth 20000 in
set_option maxHeartbeats 4000000 in
theorem bX6_readOne_17 {p : Program} {l : Launch} {e : Env} {s : State} {m : MethodId} {args : Array Value} {below : List Frame} {meth : Method} {c : Code} {G : gG} (X : gX p s m args meth c yX6_readOne cX6_readOne 3 none RX6 G) {o : Nat} (ho : gsh G o = some 6)  {σ' : Mem} : (∀ (σ : Mem) (x1 : Int32) (x2 : Int32) (xs0 : Int32), fX6_readOne_17 o σ x1 x2 xs0 = some σ' → ∀ (H : Heap) (locs : List Loc) (ls : Array Slot), gH G σ H → va_S (gAA G) s.heap H locs → lv_has ls 3 [(0, .ref (gad G o 0)), (1, .int x1), (2, .int x2)] → WB p l e 4 90 s m args below meth c G none σ' H locs (F0 m 17 ls [.int xs0, .ref (gad G o 0)])) := by
  intro σ x1 x2 xs0 hf H locs ls hH hS hl
  rw [fX6_readOne_17.eq_1] at hf
  obtain ⟨σ12, hr, hf⟩ := bd_e hf
  refine g_callVV (As := [.int xs0]) (rest := []) X (kX6_must l ho hr) (C := RX6) (T := TX6) (N := 39) (ci := 6) rfl ho ⟨cdX6_must, mlX6_118, imX6_must, seX6_must, iniX6⟩ hvX6_must ⟨Nat.le_of_ble_eq_true rfl, Nat.le_of_ble_eq_true rfl⟩ hH hS hl rfl rfl (Nat.le_of_ble_eq_true rfl) ⟨Nat.le_refl 0, Nat.le_refl 0⟩ dX6_readOne_17 (fun H locs hH hS => ?_)
  refine lv_aload_n X.hx X.hb dX6_readOne_20 rfl (lv_at hl 0 rfl) ?_
  refine gfX6_111 X hH ho dX6_readOne_21 ?_
  refine lv_if_eq (tgt := 28) X.hx X.hb dX6_readOne_24 (by decide) (fun c13 => ?_) (fun c13 => ?_)
  · have hf := it_p hf c13
    refine lv_aload_n X.hx X.hb dX6_readOne_28 rfl (lv_at hl 0 rfl) ?_
    refine lv_aload_n X.hx X.hb dX6_readOne_29 rfl (lv_at hl 0 rfl) ?_
    refine gfX6_54 X hH ho dX6_readOne_30 ?_
    refine lv_iload_n X.hx X.hb dX6_readOne_33 rfl (lv_at hl 1 rfl) ?_
    refine lv_iconst (v := 1) X.hx X.hb dX6_readOne_34 (by decide) ?_
    refine lv_iload_n X.hx X.hb dX6_readOne_35 rfl (lv_at hl 2 rfl) ?_
    obtain ⟨r14, σ15, hr, hf⟩ := bd2_e hf
    refine g_callVI (As := [.ref (gad G o (28 + 1)), .int x1, .int (1 : Int32), .int x2]) (rest := []) X (kX6_readInto l ho ⟨_, ho, rfl⟩ hr) (C := RX6) (T := TX6) (N := 39) (ci := 6) rfl ho ⟨cdX6_readInto, mlX6_129, imX6_readInto, seX6_readInto, iniX6⟩ hvX6_readInto ⟨Nat.le_of_ble_eq_true rfl, Nat.le_of_ble_eq_true rfl⟩ hH hS hl rfl rfl (Nat.le_of_ble_eq_true rfl) ⟨Nat.le_refl 0, Nat.le_refl 0⟩ dX6_readOne_36 (fun H locs hH hS => ?_)
    refine lv_pop X.hx X.hb dX6_readOne_39 rfl ?_
    refine lv_aload_n X.hx X.hb dX6_readOne_40 rfl (lv_at hl 0 rfl) ?_
    refine lv_aload_n X.hx X.hb dX6_readOne_41 rfl (lv_at hl 0 rfl) ?_
    refine gfX6_105 X hH ho dX6_readOne_42 ?_
    refine lv_iconst (v := 3) X.hx X.hb dX6_readOne_45 (by decide) ?_
    refine lv_icmp_ne (tgt := 53) X.hx X.hb dX6_readOne_46 (by decide) (fun c16 => ?_) (fun c16 => ?_)
    · have hf := it_n hf c16
      refine lv_iconst (v := 0) X.hx X.hb dX6_readOne_53 (by decide) ?_
      exact bX6_readOne_54 X  ho   _ _ _  hf _ _ _ hH hS (lv_sub hl [0, 1] rfl)
    · have hf := it_p hf c16
      refine lv_iconst (v := 1) X.hx X.hb dX6_readOne_49 (by decide) ?_
      refine lv_goto (tgt := 54) X.hx X.hb dX6_readOne_50 (by decide) ?_
      exact bX6_readOne_54 X  ho   _ _ _  hf _ _ _ hH hS (lv_sub hl [0, 1] rfl)
  · have hf := it_n hf c13
    have e := so1 hf
    rw [e] at hH
    exact g_vret X hH hS rfl dX6_readOne_27
set_option maxRecDepth 20000 in
set_option maxHeartbeats 4000000 in
theorem kX6_readOne (l : Launch) {G : gG} {σ : Mem} {σ' : Mem} {o : Nat} {x1 : Int32} {x2 : Int32} (ho : gsh G o = some 6)  (hf : fX6_readOne σ o x1 x2 = some σ') : CM l yX6_readOne cX6_readOne 3 none 4 90 G σ [.ref (gad G o 0), .int x1, .int x2] none σ' := by
  refine CM.of (by decide) (Nat.le_of_ble_eq_true rfl) (fun p e s m below meth c ls X hH hl => ?_)
  have X : gX p s m _ meth c yX6_readOne cX6_readOne 3 none RX6 G := X
  have hS : va_S (gAA G) s.heap s.heap [] := va_S.rf
  have hl : lv_has ls 3 [(0, .ref (gad G o 0)), (1, .int x1), (2, .int x2)] := hl
  rw [fX6_readOne.eq_1] at hf
  refine lv_aload_n X.hx X.hb dX6_readOne_0 rfl (lv_at hl 0 rfl) ?_
  refine lv_aload_n X.hx X.hb dX6_readOne_1 rfl (lv_at hl 0 rfl) ?_
  refine gfX6_122 X hH ho dX6_readOne_2 ?_
  refine lv_iload_n X.hx X.hb dX6_readOne_5 rfl (lv_at hl 1 rfl) ?_
  obtain ⟨r17, hr, hf⟩ := bd_e hf
  refine g_callSI (As := [.int (mI σ o 29), .int x1]) (rest := [.ref (gad G o 0)]) X (kX6_has l  hr) ⟨cdX6_has, mlX6_125, stX6_has, iniX6⟩ hsX6_has ⟨Nat.le_of_ble_eq_true rfl, Nat.le_of_ble_eq_true rfl⟩ hH hS hl rfl rfl (Nat.le_of_ble_eq_true rfl) ⟨Nat.le_refl 0, Nat.le_refl 0⟩ dX6_readOne_6 (fun H locs hH hS => ?_)
  refine lv_if_ne (tgt := 16) X.hx X.hb dX6_readOne_9 (by decide) (fun c18 => ?_) (fun c18 => ?_)
  · have hf := it_n hf c18
    refine lv_iconst (v := 0) X.hx X.hb dX6_readOne_16 (by decide) ?_
    exact bX6_readOne_17 X  ho   _ _ _ _  hf _ _ _ hH hS (lv_sub hl [0, 1, 2] rfl)
  · have hf := it_p hf c18
    refine lv_iconst (v := 1) X.hx X.hb dX6_readOne_12 (by decide) ?_
    refine lv_goto (tgt := 17) X.hx X.hb dX6_readOne_13 (by decide) ?_
    exact bX6_readOne_17 X  ho   _ _ _ _  hf _ _ _ hH hS (lv_sub hl [0, 1, 2] rfl)
set_option maxRecDepth 20000 in
set_option maxHeartbeats 4000000 in
theorem bX6_readTraveller_78 {p : Program} {l : Launch} {e : Env} {s : State} {m : MethodId} {args : Array Value} {below : List Frame} {meth : Method} {c : Code} {G : gG} (X : gX p s m args meth c yX6_readTraveller cX6_readTraveller 1 none RX6 G) {o : Nat} (ho : gsh G o = some 6)  {σ' : Mem} : (∀ (σ : Mem) (xs0 : Int32), fX6_readTraveller_78 o σ xs0 = some σ' → ∀ (H : Heap) (locs : List Loc) (ls : Array Slot), gH G σ H → va_S (gAA G) s.heap H locs → lv_has ls 1 [(0, .ref (gad G o 0))] → WB p l e 4 90 s m args below meth c G none σ' H locs (F0 m 78 ls [.int xs0, .ref (gad G o 0)])) := by
  intro σ xs0 hf H locs ls hH hS hl
  rw [fX6_readTraveller_78.eq_1] at hf
  obtain ⟨σ11, hr, hf⟩ := bd_e hf
  refine g_callVV (As := [.int xs0]) (rest := []) X (kX6_must l ho hr) (C := RX6) (T := TX6) (N := 39) (ci := 6) rfl ho ⟨cdX6_must, mlX6_118, imX6_must, seX6_must, iniX6⟩ hvX6_must ⟨Nat.le_of_ble_eq_true rfl, Nat.le_of_ble_eq_true rfl⟩ hH hS hl rfl rfl (Nat.le_of_ble_eq_true rfl) ⟨Nat.le_refl 0, Nat.le_refl 0⟩ dX6_readTraveller_78 (fun H locs hH hS => ?_)
  refine lv_aload_n X.hx X.hb dX6_readTraveller_81 rfl (lv_at hl 0 rfl) ?_
  refine lv_dup X.hx X.hb dX6_readTraveller_82 rfl ?_
  refine gfX6_133 X hH ho dX6_readTraveller_83 ?_
  refine lv_iconst (v := 1) X.hx X.hb dX6_readTraveller_86 (by decide) ?_
  refine lv_iadd X.hx X.hb dX6_readTraveller_87 ?_
  refine pfX6_133 X hH hS ho  dX6_readTraveller_88 (fun H locs hH hS => ?_)
  obtain ⟨σ12, he, hf⟩ := stp_e hf
  rw [← he] at hH
  clear he
  have e := so1 hf
  rw [e] at hH
  exact g_vret X hH hS rfl dX6_readTraveller_91
set_option maxRecDepth 20000 in
set_option maxHeartbeats 4000000 in
theorem bX6_readTraveller_15 {p : Program} {l : Launch} {e : Env} {s : State} {m : MethodId} {args : Array Value} {below : List Frame} {meth : Method} {c : Code} {G : gG} (X : gX p s m args meth c yX6_readTraveller cX6_readTraveller 1 none RX6 G) {o : Nat} (ho : gsh G o = some 6)  {σ' : Mem} : (∀ (σ : Mem) (xs0 : Int32), fX6_readTraveller_15 o σ xs0 = some σ' → ∀ (H : Heap) (locs : List Loc) (ls : Array Slot), gH G σ H → va_S (gAA G) s.heap H locs → lv_has ls 1 [(0, .ref (gad G o 0))] → WB p l e 4 90 s m args below meth c G none σ' H locs (F0 m 15 ls [.int xs0, .ref (gad G o 0)])) := by
  intro σ xs0 hf H locs ls hH hS hl
  rw [fX6_readTraveller_15.eq_1] at hf
  obtain ⟨σ13, hr, hf⟩ := bd_e hf
  refine g_callVV (As := [.int xs0]) (rest := []) X (kX6_must l ho hr) (C := RX6) (T := TX6) (N := 39) (ci := 6) rfl ho ⟨cdX6_must, mlX6_118, imX6_must, seX6_must, iniX6⟩ hvX6_must ⟨Nat.le_of_ble_eq_true rfl, Nat.le_of_ble_eq_true rfl⟩ hH hS hl rfl rfl (Nat.le_of_ble_eq_true rfl) ⟨Nat.le_refl 0, Nat.le_refl 0⟩ dX6_readTraveller_15 (fun H locs hH hS => ?_)
  refine lv_aload_n X.hx X.hb dX6_readTraveller_18 rfl (lv_at hl 0 rfl) ?_
  refine gfX6_111 X hH ho dX6_readTraveller_19 ?_
  refine lv_if_eq (tgt := 26) X.hx X.hb dX6_readTraveller_22 (by decide) (fun c14 => ?_) (fun c14 => ?_)
  · have hf := it_p hf c14
    refine lv_aload_n X.hx X.hb dX6_readTraveller_26 rfl (lv_at hl 0 rfl) ?_
    refine lv_aload_n X.hx X.hb dX6_readTraveller_27 rfl (lv_at hl 0 rfl) ?_
    refine gfX6_48 X hH ho dX6_readTraveller_28 ?_
    refine lv_iconst (v := 2) X.hx X.hb dX6_readTraveller_31 (by decide) ?_
    refine lv_aload_n X.hx X.hb dX6_readTraveller_32 rfl (lv_at hl 0 rfl) ?_
    refine gfX6_133 X hH ho dX6_readTraveller_33 ?_
    refine lv_imul X.hx X.hb dX6_readTraveller_36 ?_
    refine lv_iconst (v := 0) X.hx X.hb dX6_readTraveller_37 (by decide) ?_
    refine lv_bipush (v := 40) X.hx X.hb dX6_readTraveller_38 (by decide) ?_
    obtain ⟨r15, σ16, hr, hf⟩ := bd2_e hf
    refine g_callVI (As := [.ref (gad G o (25 + 1)), .int ((2 : Int32) * (mI σ13 o 24)), .int (0 : Int32), .int (40 : Int32)]) (rest := []) X (kX6_readInto l ho ⟨_, ho, rfl⟩ hr) (C := RX6) (T := TX6) (N := 39) (ci := 6) rfl ho ⟨cdX6_readInto, mlX6_129, imX6_readInto, seX6_readInto, iniX6⟩ hvX6_readInto ⟨Nat.le_of_ble_eq_true rfl, Nat.le_of_ble_eq_true rfl⟩ hH hS hl rfl rfl (Nat.le_of_ble_eq_true rfl) ⟨Nat.le_refl 0, Nat.le_refl 0⟩ dX6_readTraveller_40 (fun H locs hH hS => ?_)
    refine lv_pop X.hx X.hb dX6_readTraveller_43 rfl ?_
    refine lv_aload_n X.hx X.hb dX6_readTraveller_44 rfl (lv_at hl 0 rfl) ?_
    refine lv_aload_n X.hx X.hb dX6_readTraveller_45 rfl (lv_at hl 0 rfl) ?_
    refine gfX6_48 X hH ho dX6_readTraveller_46 ?_
    refine lv_iconst (v := 2) X.hx X.hb dX6_readTraveller_49 (by decide) ?_
    refine lv_aload_n X.hx X.hb dX6_readTraveller_50 rfl (lv_at hl 0 rfl) ?_
    refine gfX6_133 X hH ho dX6_readTraveller_51 ?_
    refine lv_imul X.hx X.hb dX6_readTraveller_54 ?_
    refine lv_iconst (v := 1) X.hx X.hb dX6_readTraveller_55 (by decide) ?_
    refine lv_iadd X.hx X.hb dX6_readTraveller_56 ?_
    refine lv_iconst (v := 0) X.hx X.hb dX6_readTraveller_57 (by decide) ?_
    refine lv_bipush (v := 10) X.hx X.hb dX6_readTraveller_58 (by decide) ?_
    obtain ⟨r17, σ18, hr, hf⟩ := bd2_e hf
    refine g_callVI (As := [.ref (gad G o (25 + 1)), .int (((2 : Int32) * (mI σ16 o 24)) + (1 : Int32)), .int (0 : Int32), .int (10 : Int32)]) (rest := []) X (kX6_readInto l ho ⟨_, ho, rfl⟩ hr) (C := RX6) (T := TX6) (N := 39) (ci := 6) rfl ho ⟨cdX6_readInto, mlX6_129, imX6_readInto, seX6_readInto, iniX6⟩ hvX6_readInto ⟨Nat.le_of_ble_eq_true rfl, Nat.le_of_ble_eq_true rfl⟩ hH hS hl rfl rfl (Nat.le_of_ble_eq_true rfl) ⟨Nat.le_refl 0, Nat.le_refl 0⟩ dX6_readTraveller_60 (fun H locs hH hS => ?_)
    refine lv_pop X.hx X.hb dX6_readTraveller_63 rfl ?_
    refine lv_aload_n X.hx X.hb dX6_readTraveller_64 rfl (lv_at hl 0 rfl) ?_
    refine lv_aload_n X.hx X.hb dX6_readTraveller_65 rfl (lv_at hl 0 rfl) ?_
    refine gfX6_105 X hH ho dX6_readTraveller_66 ?_
    refine lv_iconst (v := 3) X.hx X.hb dX6_readTraveller_69 (by decide) ?_
    refine lv_icmp_ne (tgt := 77) X.hx X.hb dX6_readTraveller_70 (by decide) (fun c19 => ?_) (fun c19 => ?_)
    · have hf := it_n hf c19
      refine lv_iconst (v := 0) X.hx X.hb dX6_readTraveller_77 (by decide) ?_
      exact bX6_readTraveller_78 X  ho   _ _  hf _ _ _ hH hS (lv_sub hl [0] rfl)
    · have hf := it_p hf c19
      refine lv_iconst (v := 1) X.hx X.hb dX6_readTraveller_73 (by decide) ?_
      refine lv_goto (tgt := 78) X.hx X.hb dX6_readTraveller_74 (by decide) ?_
      exact bX6_readTraveller_78 X  ho   _ _  hf _ _ _ hH hS (lv_sub hl [0] rfl)
  · have hf := it_n hf c14
    have e := so1 hf
    rw [e] at hH
    exact g_vret X hH hS rfl dX6_readTraveller_25
set_option maxRecDepth 20000 in
set_option maxHeartbeats 4000000 in
theorem kX6_readTraveller (l : Launch) {G : gG} {σ : Mem} {σ' : Mem} {o : Nat} (ho : gsh G o = some 6)  (hf : fX6_readTraveller σ o = some σ') : CM l yX6_readTraveller cX6_readTraveller 1 none 4 90 G σ [.ref (gad G o 0)] none σ' := by
  refine CM.of (by decide) (Nat.le_of_ble_eq_true rfl) (fun p e s m below meth c ls X hH hl => ?_)
  have X : gX p s m _ meth c yX6_readTraveller cX6_readTraveller 1 none RX6 G := X
  have hS : va_S (gAA G) s.heap s.heap [] := va_S.rf
  have hl : lv_has ls 1 [(0, .ref (gad G o 0))] := hl
  rw [fX6_readTraveller.eq_1] at hf
  refine lv_aload_n X.hx X.hb dX6_readTraveller_0 rfl (lv_at hl 0 rfl) ?_
  refine lv_aload_n X.hx X.hb dX6_readTraveller_1 rfl (lv_at hl 0 rfl) ?_
  refine gfX6_133 X hH ho dX6_readTraveller_2 ?_
  refine lv_bipush (v := 6) X.hx X.hb dX6_readTraveller_5 (by decide) ?_
  refine lv_icmp_ge (tgt := 14) X.hx X.hb dX6_readTraveller_7 (by decide) (fun c20 => ?_) (fun c20 => ?_)
  · have hf := it_p hf c20
    refine lv_iconst (v := 0) X.hx X.hb dX6_readTraveller_14 (by decide) ?_
    exact bX6_readTraveller_15 X  ho   _ _  hf _ _ _ hH hS (lv_sub hl [0] rfl)
  · have hf := it_n hf c20
    refine lv_iconst (v := 1) X.hx X.hb dX6_readTraveller_10 (by decide) ?_
    refine lv_goto (tgt := 15) X.hx X.hb dX6_readTraveller_11 (by decide) ?_
    exact bX6_readTraveller_15 X  ho   _ _  hf _ _ _ hH hS (lv_sub hl [0] rfl)
set_option maxRecDepth 20000 in
set_option maxHeartbeats 4000000 in
theorem bX6_readClerk_132 {p : Program} {l : Launch} {e : Env} {s : State} {m : MethodId} {args : Array Value} {below : List Frame} {meth : Method} {c : Code} {G : gG} (X : gX p s m args meth c yX6_readClerk cX6_readClerk 4 none RX6 G) {o : Nat} (ho : gsh G o = some 6)  {σ' : Mem} : (∀ (σ : Mem) (xs0 : Int32), fX6_readClerk_132 o σ xs0 = some σ' → ∀ (H : Heap) (locs : List Loc) (ls : Array Slot), gH G σ H → va_S (gAA G) s.heap H locs → lv_has ls 4 [(0, .ref (gad G o 0))] → WB p l e 4 90 s m args below meth c G none σ' H locs (F0 m 132 ls [.int xs0, .ref (gad G o 0)])) := by
  intro σ xs0 hf H locs ls hH hS hl
  rw [fX6_readClerk_132.eq_1] at hf
  obtain ⟨σ18, hr, hf⟩ := bd_e hf
  refine g_callVV (As := [.int xs0]) (rest := []) X (kX6_must l ho hr) (C := RX6) (T := TX6) (N := 39) (ci := 6) rfl ho ⟨cdX6_must, mlX6_118, imX6_must, seX6_must, iniX6⟩ hvX6_must ⟨Nat.le_of_ble_eq_true rfl, Nat.le_of_ble_eq_true rfl⟩ hH hS hl rfl rfl (Nat.le_of_ble_eq_true rfl) ⟨Nat.le_refl 0, Nat.le_refl 0⟩ dX6_readClerk_132 (fun H locs hH hS => ?_)
  refine lv_aload_n X.hx X.hb dX6_readClerk_135 rfl (lv_at hl 0 rfl) ?_
  refine lv_dup X.hx X.hb dX6_readClerk_136 rfl ?_
  refine gfX6_136 X hH ho dX6_readClerk_137 ?_
  refine lv_iconst (v := 1) X.hx X.hb dX6_readClerk_140 (by decide) ?_
  refine lv_iadd X.hx X.hb dX6_readClerk_141 ?_
  refine pfX6_136 X hH hS ho  dX6_readClerk_142 (fun H locs hH hS => ?_)
  obtain ⟨σ19, he, hf⟩ := stp_e hf
  rw [← he] at hH
  clear he
  have e := so1 hf
  rw [e] at hH
  exact g_vret X hH hS rfl dX6_readClerk_145
set_option maxRecDepth 20000 in
set_option maxHeartbeats 4000000 in
theorem bX6_readClerk_106 {p : Program} {l : Launch} {e : Env} {s : State} {m : MethodId} {args : Array Value} {below : List Frame} {meth : Method} {c : Code} {G : gG} (X : gX p s m args meth c yX6_readClerk cX6_readClerk 4 none RX6 G) {o : Nat} (ho : gsh G o = some 6)  {σ' : Mem} : (∀ (σ : Mem) (x1 : Int32) (x3 : Int32) (xs0 : Int32), fX6_readClerk_106 o σ x1 x3 xs0 = some σ' → ∀ (H : Heap) (locs : List Loc) (ls : Array Slot), gH G σ H → va_S (gAA G) s.heap H locs → lv_has ls 4 [(0, .ref (gad G o 0)), (1, .int x1), (3, .int x3)] → WB p l e 4 90 s m args below meth c G none σ' H locs (F0 m 106 ls [.int xs0, .ref (gad G o 0)])) := by
  intro σ x1 x3 xs0 hf H locs ls hH hS hl
  rw [fX6_readClerk_106.eq_1] at hf
  obtain ⟨σ20, hr, hf⟩ := bd_e hf
  refine g_callVV (As := [.int xs0]) (rest := []) X (kX6_must l ho hr) (C := RX6) (T := TX6) (N := 39) (ci := 6) rfl ho ⟨cdX6_must, mlX6_118, imX6_must, seX6_must, iniX6⟩ hvX6_must ⟨Nat.le_of_ble_eq_true rfl, Nat.le_of_ble_eq_true rfl⟩ hH hS hl rfl rfl (Nat.le_of_ble_eq_true rfl) ⟨Nat.le_refl 0, Nat.le_refl 0⟩ dX6_readClerk_106 (fun H locs hH hS => ?_)
  refine lv_aload_n X.hx X.hb dX6_readClerk_109 rfl (lv_at hl 0 rfl) ?_
  refine gfX6_51 X hH ho dX6_readClerk_110 ?_
  refine lv_iload_n X.hx X.hb dX6_readClerk_113 rfl (lv_at hl 1 rfl) ?_
  refine lv_iconst (v := 2) X.hx X.hb dX6_readClerk_114 (by decide) ?_
  refine lv_iadd X.hx X.hb dX6_readClerk_115 ?_
  refine lv_iload_n X.hx X.hb dX6_readClerk_116 rfl (lv_at hl 2 rfl) ?_
  obtain ⟨hg, hf⟩ := gd_e hf
  refine g_iast X hH hS ⟨_, ho, rfl⟩ hg dX6_readClerk_117 (fun H locs hH hS => ?_)
  obtain ⟨σ21, he, hf⟩ := stp_e hf
  rw [← he] at hH
  clear he
  refine lv_aload_n X.hx X.hb dX6_readClerk_118 rfl (lv_at hl 0 rfl) ?_
  refine lv_aload_n X.hx X.hb dX6_readClerk_119 rfl (lv_at hl 0 rfl) ?_
  refine gfX6_105 X hH ho dX6_readClerk_120 ?_
  refine lv_iconst (v := 3) X.hx X.hb dX6_readClerk_123 (by decide) ?_
  refine lv_icmp_ne (tgt := 131) X.hx X.hb dX6_readClerk_124 (by decide) (fun c22 => ?_) (fun c22 => ?_)
  · have hf := it_n hf c22
    refine lv_iconst (v := 0) X.hx X.hb dX6_readClerk_131 (by decide) ?_
    exact bX6_readClerk_132 X  ho   _ _  hf _ _ _ hH hS (lv_sub hl [0] rfl)
  · have hf := it_p hf c22
    refine lv_iconst (v := 1) X.hx X.hb dX6_readClerk_127 (by decide) ?_
    refine lv_goto (tgt := 132) X.hx X.hb dX6_readClerk_128 (by decide) ?_
    exact bX6_readClerk_132 X  ho   _ _  hf _ _ _ hH hS (lv_sub hl [0] rfl)
set_option maxRecDepth 20000 in
set_option maxHeartbeats 4000000 in
theorem bX6_readClerk_14 {p : Program} {l : Launch} {e : Env} {s : State} {m : MethodId} {args : Array Value} {below : List Frame} {meth : Method} {c : Code} {G : gG} (X : gX p s m args meth c yX6_readClerk cX6_readClerk 4 none RX6 G) {o : Nat} (ho : gsh G o = some 6)  {σ' : Mem} : (∀ (σ : Mem) (xs0 : Int32), fX6_readClerk_14 o σ xs0 = some σ' → ∀ (H : Heap) (locs : List Loc) (ls : Array Slot), gH G σ H → va_S (gAA G) s.heap H locs → lv_has ls 4 [(0, .ref (gad G o 0))] → WB p l e 4 90 s m args below meth c G none σ' H locs (F0 m 14 ls [.int xs0, .ref (gad G o 0)])) := by
  intro σ xs0 hf H locs ls hH hS hl
  rw [fX6_readClerk_14.eq_1] at hf
  obtain ⟨σ23, hr, hf⟩ := bd_e hf
  refine g_callVV (As := [.int xs0]) (rest := []) X (kX6_must l ho hr) (C := RX6) (T := TX6) (N := 39) (ci := 6) rfl ho ⟨cdX6_must, mlX6_118, imX6_must, seX6_must, iniX6⟩ hvX6_must ⟨Nat.le_of_ble_eq_true rfl, Nat.le_of_ble_eq_true rfl⟩ hH hS hl rfl rfl (Nat.le_of_ble_eq_true rfl) ⟨Nat.le_refl 0, Nat.le_refl 0⟩ dX6_readClerk_14 (fun H locs hH hS => ?_)
  refine lv_aload_n X.hx X.hb dX6_readClerk_17 rfl (lv_at hl 0 rfl) ?_
  refine gfX6_111 X hH ho dX6_readClerk_18 ?_
  refine lv_if_eq (tgt := 25) X.hx X.hb dX6_readClerk_21 (by decide) (fun c24 => ?_) (fun c24 => ?_)
  · have hf := it_p hf c24
    refine lv_iconst (v := 3) X.hx X.hb dX6_readClerk_25 (by decide) ?_
    refine lv_aload_n X.hx X.hb dX6_readClerk_26 rfl (lv_at hl 0 rfl) ?_
    refine gfX6_136 X hH ho dX6_readClerk_27 ?_
    refine lv_imul X.hx X.hb dX6_readClerk_30 ?_
    refine lv_istore_n (lv' := [(1, .int ((3 : Int32) * (mI σ23 o 26))), (0, .ref (gad G o 0))]) X.hx X.hb dX6_readClerk_31 rfl hl (by decide) rfl (fun ls hl => ?_)
    refine lv_aload_n X.hx X.hb dX6_readClerk_32 rfl (lv_at hl 1 rfl) ?_
    refine lv_aload_n X.hx X.hb dX6_readClerk_33 rfl (lv_at hl 1 rfl) ?_
    refine gfX6_51 X hH ho dX6_readClerk_34 ?_
    refine lv_iload_n X.hx X.hb dX6_readClerk_37 rfl (lv_at hl 0 rfl) ?_
    refine lv_iconst (v := 0) X.hx X.hb dX6_readClerk_38 (by decide) ?_
    refine lv_sipush (v := 1023) X.hx X.hb dX6_readClerk_39 (by decide) ?_
    obtain ⟨r25, σ26, hr, hf⟩ := bd2_e hf
    refine g_callVI (As := [.ref (gad G o (27 + 1)), .int ((3 : Int32) * (mI σ23 o 26)), .int (0 : Int32), .int (1023 : Int32)]) (rest := []) X (kX6_readInto l ho ⟨_, ho, rfl⟩ hr) (C := RX6) (T := TX6) (N := 39) (ci := 6) rfl ho ⟨cdX6_readInto, mlX6_129, imX6_readInto, seX6_readInto, iniX6⟩ hvX6_readInto ⟨Nat.le_of_ble_eq_true rfl, Nat.le_of_ble_eq_true rfl⟩ hH hS hl rfl rfl (Nat.le_of_ble_eq_true rfl) ⟨Nat.le_refl 0, Nat.le_refl 0⟩ dX6_readClerk_42 (fun H locs hH hS => ?_)
    refine lv_pop X.hx X.hb dX6_readClerk_45 rfl ?_
    refine lv_aload_n X.hx X.hb dX6_readClerk_46 rfl (lv_at hl 1 rfl) ?_
    refine lv_aload_n X.hx X.hb dX6_readClerk_47 rfl (lv_at hl 1 rfl) ?_
    refine gfX6_51 X hH ho dX6_readClerk_48 ?_
    refine lv_iload_n X.hx X.hb dX6_readClerk_51 rfl (lv_at hl 0 rfl) ?_
    refine lv_iconst (v := 1) X.hx X.hb dX6_readClerk_52 (by decide) ?_
    refine lv_iadd X.hx X.hb dX6_readClerk_53 ?_
    refine lv_iconst (v := 0) X.hx X.hb dX6_readClerk_54 (by decide) ?_
    refine lv_bipush (v := 10) X.hx X.hb dX6_readClerk_55 (by decide) ?_
    obtain ⟨r27, σ28, hr, hf⟩ := bd2_e hf
    refine g_callVI (As := [.ref (gad G o (27 + 1)), .int (((3 : Int32) * (mI σ23 o 26)) + (1 : Int32)), .int (0 : Int32), .int (10 : Int32)]) (rest := []) X (kX6_readInto l ho ⟨_, ho, rfl⟩ hr) (C := RX6) (T := TX6) (N := 39) (ci := 6) rfl ho ⟨cdX6_readInto, mlX6_129, imX6_readInto, seX6_readInto, iniX6⟩ hvX6_readInto ⟨Nat.le_of_ble_eq_true rfl, Nat.le_of_ble_eq_true rfl⟩ hH hS hl rfl rfl (Nat.le_of_ble_eq_true rfl) ⟨Nat.le_refl 0, Nat.le_refl 0⟩ dX6_readClerk_57 (fun H locs hH hS => ?_)
    refine lv_istore_n (lv' := [(2, .int r27), (1, .int ((3 : Int32) * (mI σ23 o 26))), (0, .ref (gad G o 0))]) X.hx X.hb dX6_readClerk_60 rfl hl (by decide) rfl (fun ls hl => ?_)
    refine lv_aload_n X.hx X.hb dX6_readClerk_61 rfl (lv_at hl 2 rfl) ?_
    refine gfX6_108 X hH ho dX6_readClerk_62 ?_
    refine lv_istore_n (lv' := [(3, .int (mI σ28 o 22)), (2, .int r27), (1, .int ((3 : Int32) * (mI σ23 o 26))), (0, .ref (gad G o 0))]) X.hx X.hb dX6_readClerk_65 rfl hl (by decide) rfl (fun ls hl => ?_)
    refine lv_aload_n X.hx X.hb dX6_readClerk_66 rfl (lv_at hl 3 rfl) ?_
    refine lv_aload_n X.hx X.hb dX6_readClerk_67 rfl (lv_at hl 3 rfl) ?_
    refine gfX6_105 X hH ho dX6_readClerk_68 ?_
    refine lv_iconst (v := 2) X.hx X.hb dX6_readClerk_71 (by decide) ?_
    refine lv_icmp_ne (tgt := 105) X.hx X.hb dX6_readClerk_72 (by decide) (fun c29 => ?_) (fun c29 => ?_)
    · have hf := it_n hf c29
      refine lv_iconst (v := 0) X.hx X.hb dX6_readClerk_105 (by decide) ?_
      exact bX6_readClerk_106 X  ho   _ _ _ _  hf _ _ _ hH hS (lv_sub hl [3, 2, 0] rfl)
    · have hf := it_p hf c29
      refine lv_iload_n X.hx X.hb dX6_readClerk_75 rfl (lv_at hl 1 rfl) ?_
      refine lv_bipush (v := 10) X.hx X.hb dX6_readClerk_76 (by decide) ?_
      refine lv_icmp_ne (tgt := 90) X.hx X.hb dX6_readClerk_78 (by decide) (fun c30 => ?_) (fun c30 => ?_)
      · have hf := it_n hf c30
        refine lv_iload_n X.hx X.hb dX6_readClerk_90 rfl (lv_at hl 0 rfl) ?_
        refine lv_bipush (v := 10) X.hx X.hb dX6_readClerk_91 (by decide) ?_
        refine lv_icmp_ge (tgt := 105) X.hx X.hb dX6_readClerk_93 (by decide) (fun c31 => ?_) (fun c31 => ?_)
        · have hf := it_p hf c31
          refine lv_iconst (v := 0) X.hx X.hb dX6_readClerk_105 (by decide) ?_
          exact bX6_readClerk_106 X  ho   _ _ _ _  hf _ _ _ hH hS (lv_sub hl [3, 2, 0] rfl)
        · have hf := it_n hf c31
          refine lv_iload_n X.hx X.hb dX6_readClerk_96 rfl (lv_at hl 0 rfl) ?_
          refine lv_iload_n X.hx X.hb dX6_readClerk_97 rfl (lv_at hl 1 rfl) ?_
          refine lv_icmp_eq (tgt := 105) X.hx X.hb dX6_readClerk_98 (by decide) (fun c32 => ?_) (fun c32 => ?_)
          · have hf := it_p hf c32
            refine lv_iconst (v := 0) X.hx X.hb dX6_readClerk_105 (by decide) ?_
            exact bX6_readClerk_106 X  ho   _ _ _ _  hf _ _ _ hH hS (lv_sub hl [3, 2, 0] rfl)
          · have hf := it_n hf c32
            refine lv_iconst (v := 1) X.hx X.hb dX6_readClerk_101 (by decide) ?_
            refine lv_goto (tgt := 106) X.hx X.hb dX6_readClerk_102 (by decide) ?_
            exact bX6_readClerk_106 X  ho   _ _ _ _  hf _ _ _ hH hS (lv_sub hl [3, 2, 0] rfl)
      · have hf := it_p hf c30
        refine lv_iload_n X.hx X.hb dX6_readClerk_81 rfl (lv_at hl 0 rfl) ?_
        refine lv_bipush (v := 10) X.hx X.hb dX6_readClerk_82 (by decide) ?_
        refine lv_icmp_ne (tgt := 105) X.hx X.hb dX6_readClerk_84 (by decide) (fun c33 => ?_) (fun c33 => ?_)
        · have hf := it_n hf c33
          refine lv_iconst (v := 0) X.hx X.hb dX6_readClerk_105 (by decide) ?_
          exact bX6_readClerk_106 X  ho   _ _ _ _  hf _ _ _ hH hS (lv_sub hl [3, 2, 0] rfl)
        · have hf := it_p hf c33
          refine lv_goto (tgt := 101) X.hx X.hb dX6_readClerk_87 (by decide) ?_
          refine lv_iconst (v := 1) X.hx X.hb dX6_readClerk_101 (by decide) ?_
          refine lv_goto (tgt := 106) X.hx X.hb dX6_readClerk_102 (by decide) ?_
          exact bX6_readClerk_106 X  ho   _ _ _ _  hf _ _ _ hH hS (lv_sub hl [3, 2, 0] rfl)
  · have hf := it_n hf c24
    have e := so1 hf
    rw [e] at hH
    exact g_vret X hH hS rfl dX6_readClerk_24
set_option maxRecDepth 20000 in
set_option maxHeartbeats 4000000 in
theorem kX6_readClerk (l : Launch) {G : gG} {σ : Mem} {σ' : Mem} {o : Nat} (ho : gsh G o = some 6)  (hf : fX6_readClerk σ o = some σ') : CM l yX6_readClerk cX6_readClerk 4 none 4 90 G σ [.ref (gad G o 0)] none σ' := by
  refine CM.of (by decide) (Nat.le_of_ble_eq_true rfl) (fun p e s m below meth c ls X hH hl => ?_)
  have X : gX p s m _ meth c yX6_readClerk cX6_readClerk 4 none RX6 G := X
  have hS : va_S (gAA G) s.heap s.heap [] := va_S.rf
  have hl : lv_has ls 4 [(0, .ref (gad G o 0))] := hl
  rw [fX6_readClerk.eq_1] at hf
  refine lv_aload_n X.hx X.hb dX6_readClerk_0 rfl (lv_at hl 0 rfl) ?_
  refine lv_aload_n X.hx X.hb dX6_readClerk_1 rfl (lv_at hl 0 rfl) ?_
  refine gfX6_136 X hH ho dX6_readClerk_2 ?_
  refine lv_iconst (v := 4) X.hx X.hb dX6_readClerk_5 (by decide) ?_
  refine lv_icmp_ge (tgt := 13) X.hx X.hb dX6_readClerk_6 (by decide) (fun c34 => ?_) (fun c34 => ?_)
  · have hf := it_p hf c34
    refine lv_iconst (v := 0) X.hx X.hb dX6_readClerk_13 (by decide) ?_
    exact bX6_readClerk_14 X  ho   _ _  hf _ _ _ hH hS (lv_sub hl [0] rfl)
  · have hf := it_n hf c34
    refine lv_iconst (v := 1) X.hx X.hb dX6_readClerk_9 (by decide) ?_
    refine lv_goto (tgt := 14) X.hx X.hb dX6_readClerk_10 (by decide) ?_
    exact bX6_readClerk_14 X  ho   _ _  hf _ _ _ hH hS (lv_sub hl [0] rfl)
set_option maxRecDepth 20000 in
set_option maxHeartbeats 4000000 in
theorem bX6_readItem_16 {p : Program} {l : Launch} {e : Env} {s : State} {m : MethodId} {args : Array Value} {below : List Frame} {meth : Method} {c : Code} {G : gG} (X : gX p s m args meth c yX6_readItem cX6_readItem 2 none RX6 G) {o : Nat} (ho : gsh G o = some 6)  {σ' : Mem} : (∀ (σ : Mem) (xs0 : Int32), fX6_readItem_16 o σ xs0 = some σ' → ∀ (H : Heap) (locs : List Loc) (ls : Array Slot), gH G σ H → va_S (gAA G) s.heap H locs → lv_has ls 2 [(0, .ref (gad G o 0))] → WB p l e 5 113 s m args below meth c G none σ' H locs (F0 m 16 ls [.int xs0])) := by
  intro σ xs0 hf H locs ls hH hS hl
  rw [fX6_readItem_16.eq_1] at hf
  refine lv_istore_n (lv' := [(1, .int xs0), (0, .ref (gad G o 0))]) X.hx X.hb dX6_readItem_16 rfl hl (by decide) rfl (fun ls hl => ?_)
  refine lv_iload_n X.hx X.hb dX6_readItem_17 rfl (lv_at hl 0 rfl) ?_
  refine lv_bipush (v := 113) X.hx X.hb dX6_readItem_18 (by decide) ?_
  refine lv_icmp_ne (tgt := 33) X.hx X.hb dX6_readItem_20 (by decide) (fun c13 => ?_) (fun c13 => ?_)
  · have hf := it_n hf c13
    refine lv_iload_n X.hx X.hb dX6_readItem_33 rfl (lv_at hl 0 rfl) ?_
    refine lv_bipush (v := 114) X.hx X.hb dX6_readItem_34 (by decide) ?_
    refine lv_icmp_ne (tgt := 48) X.hx X.hb dX6_readItem_36 (by decide) (fun c14 => ?_) (fun c14 => ?_)
    · have hf := it_n hf c14
      refine lv_iload_n X.hx X.hb dX6_readItem_48 rfl (lv_at hl 0 rfl) ?_
      refine lv_bipush (v := 98) X.hx X.hb dX6_readItem_49 (by decide) ?_
      refine lv_icmp_ne (tgt := 64) X.hx X.hb dX6_readItem_51 (by decide) (fun c15 => ?_) (fun c15 => ?_)
      · have hf := it_n hf c15
        refine lv_iload_n X.hx X.hb dX6_readItem_64 rfl (lv_at hl 0 rfl) ?_
        refine lv_bipush (v := 116) X.hx X.hb dX6_readItem_65 (by decide) ?_
        refine lv_icmp_ne (tgt := 77) X.hx X.hb dX6_readItem_67 (by decide) (fun c16 => ?_) (fun c16 => ?_)
        · have hf := it_n hf c16
          refine lv_iload_n X.hx X.hb dX6_readItem_77 rfl (lv_at hl 0 rfl) ?_
          refine lv_bipush (v := 107) X.hx X.hb dX6_readItem_78 (by decide) ?_
          refine lv_icmp_ne (tgt := 90) X.hx X.hb dX6_readItem_80 (by decide) (fun c17 => ?_) (fun c17 => ?_)
          · have hf := it_n hf c17
            refine lv_aload_n X.hx X.hb dX6_readItem_90 rfl (lv_at hl 1 rfl) ?_
            refine lv_iconst (v := 1) X.hx X.hb dX6_readItem_91 (by decide) ?_
            refine pfX6_111 X hH hS ho (by decide) dX6_readItem_92 (fun H locs hH hS => ?_)
            obtain ⟨σ18, he, hf⟩ := stp_e hf
            rw [← he] at hH
            clear he
            have e := so1 hf
            rw [e] at hH
            exact g_vret X hH hS rfl dX6_readItem_95
          · have hf := it_p hf c17
            refine lv_aload_n X.hx X.hb dX6_readItem_83 rfl (lv_at hl 1 rfl) ?_
            obtain ⟨σ19, hr, hf⟩ := bd_e hf
            refine g_callVV (As := []) (rest := []) X (kX6_readClerk l ho hr) (C := RX6) (T := TX6) (N := 39) (ci := 6) rfl ho ⟨cdX6_readClerk, mlX6_146, imX6_readClerk, seX6_readClerk, iniX6⟩ hvX6_readClerk ⟨Nat.le_of_ble_eq_true rfl, Nat.le_of_ble_eq_true rfl⟩ hH hS hl rfl rfl (Nat.le_of_ble_eq_true rfl) ⟨Nat.le_refl 0, Nat.le_refl 0⟩ dX6_readItem_84 (fun H locs hH hS => ?_)
            refine lv_goto (tgt := 95) X.hx X.hb dX6_readItem_87 (by decide) ?_
            have e := so1 hf
            rw [e] at hH
            exact g_vret X hH hS rfl dX6_readItem_95
        · have hf := it_p hf c16
          refine lv_aload_n X.hx X.hb dX6_readItem_70 rfl (lv_at hl 1 rfl) ?_
          obtain ⟨σ20, hr, hf⟩ := bd_e hf
          refine g_callVV (As := []) (rest := []) X (kX6_readTraveller l ho hr) (C := RX6) (T := TX6) (N := 39) (ci := 6) rfl ho ⟨cdX6_readTraveller, mlX6_143, imX6_readTraveller, seX6_readTraveller, iniX6⟩ hvX6_readTraveller ⟨Nat.le_of_ble_eq_true rfl, Nat.le_of_ble_eq_true rfl⟩ hH hS hl rfl rfl (Nat.le_of_ble_eq_true rfl) ⟨Nat.le_refl 0, Nat.le_refl 0⟩ dX6_readItem_71 (fun H locs hH hS => ?_)
          refine lv_goto (tgt := 95) X.hx X.hb dX6_readItem_74 (by decide) ?_
          have e := so1 hf
          rw [e] at hH
          exact g_vret X hH hS rfl dX6_readItem_95
      · have hf := it_p hf c15
        refine lv_aload_n X.hx X.hb dX6_readItem_54 rfl (lv_at hl 1 rfl) ?_
        refine lv_iconst (v := 2) X.hx X.hb dX6_readItem_55 (by decide) ?_
        refine lv_bipush (v := 9) X.hx X.hb dX6_readItem_56 (by decide) ?_
        obtain ⟨σ21, hr, hf⟩ := bd_e hf
        refine g_callVV (As := [.int (2 : Int32), .int (9 : Int32)]) (rest := []) X (kX6_readOne l ho hr) (C := RX6) (T := TX6) (N := 39) (ci := 6) rfl ho ⟨cdX6_readOne, mlX6_139, imX6_readOne, seX6_readOne, iniX6⟩ hvX6_readOne ⟨Nat.le_of_ble_eq_true rfl, Nat.le_of_ble_eq_true rfl⟩ hH hS hl rfl rfl (Nat.le_of_ble_eq_true rfl) ⟨Nat.le_refl 0, Nat.le_refl 0⟩ dX6_readItem_58 (fun H locs hH hS => ?_)
        refine lv_goto (tgt := 95) X.hx X.hb dX6_readItem_61 (by decide) ?_
        have e := so1 hf
        rw [e] at hH
        exact g_vret X hH hS rfl dX6_readItem_95
    · have hf := it_p hf c14
      refine lv_aload_n X.hx X.hb dX6_readItem_39 rfl (lv_at hl 1 rfl) ?_
      refine lv_iconst (v := 1) X.hx X.hb dX6_readItem_40 (by decide) ?_
      refine lv_iconst (v := 3) X.hx X.hb dX6_readItem_41 (by decide) ?_
      obtain ⟨σ22, hr, hf⟩ := bd_e hf
      refine g_callVV (As := [.int (1 : Int32), .int (3 : Int32)]) (rest := []) X (kX6_readOne l ho hr) (C := RX6) (T := TX6) (N := 39) (ci := 6) rfl ho ⟨cdX6_readOne, mlX6_139, imX6_readOne, seX6_readOne, iniX6⟩ hvX6_readOne ⟨Nat.le_of_ble_eq_true rfl, Nat.le_of_ble_eq_true rfl⟩ hH hS hl rfl rfl (Nat.le_of_ble_eq_true rfl) ⟨Nat.le_refl 0, Nat.le_refl 0⟩ dX6_readItem_42 (fun H locs hH hS => ?_)
      refine lv_goto (tgt := 95) X.hx X.hb dX6_readItem_45 (by decide) ?_
      have e := so1 hf
      rw [e] at hH
      exact g_vret X hH hS rfl dX6_readItem_95
  · have hf := it_p hf c13
    refine lv_aload_n X.hx X.hb dX6_readItem_23 rfl (lv_at hl 1 rfl) ?_
    refine lv_iconst (v := 0) X.hx X.hb dX6_readItem_24 (by decide) ?_
    refine lv_bipush (v := 40) X.hx X.hb dX6_readItem_25 (by decide) ?_
    obtain ⟨σ23, hr, hf⟩ := bd_e hf
    refine g_callVV (As := [.int (0 : Int32), .int (40 : Int32)]) (rest := []) X (kX6_readOne l ho hr) (C := RX6) (T := TX6) (N := 39) (ci := 6) rfl ho ⟨cdX6_readOne, mlX6_139, imX6_readOne, seX6_readOne, iniX6⟩ hvX6_readOne ⟨Nat.le_of_ble_eq_true rfl, Nat.le_of_ble_eq_true rfl⟩ hH hS hl rfl rfl (Nat.le_of_ble_eq_true rfl) ⟨Nat.le_refl 0, Nat.le_refl 0⟩ dX6_readItem_27 (fun H locs hH hS => ?_)
    refine lv_goto (tgt := 95) X.hx X.hb dX6_readItem_30 (by decide) ?_
    have e := so1 hf
    rw [e] at hH
    exact g_vret X hH hS rfl dX6_readItem_95
set_option maxRecDepth 20000 in
set_option maxHeartbeats 4000000 in
theorem kX6_readItem (l : Launch) {G : gG} {σ : Mem} {σ' : Mem} {o : Nat} (ho : gsh G o = some 6)  (hf : fX6_readItem σ o = some σ') : CM l yX6_readItem cX6_readItem 2 none 5 113 G σ [.ref (gad G o 0)] none σ' := by
  refine CM.of (by decide) (Nat.le_of_ble_eq_true rfl) (fun p e s m below meth c ls X hH hl => ?_)
  have X : gX p s m _ meth c yX6_readItem cX6_readItem 2 none RX6 G := X
  have hS : va_S (gAA G) s.heap s.heap [] := va_S.rf
  have hl : lv_has ls 2 [(0, .ref (gad G o 0))] := hl
  rw [fX6_readItem.eq_1] at hf
  refine lv_aload_n X.hx X.hb dX6_readItem_0 rfl (lv_at hl 0 rfl) ?_
  refine gfX6_105 X hH ho dX6_readItem_1 ?_
  refine lv_iconst (v := 1) X.hx X.hb dX6_readItem_4 (by decide) ?_
  refine lv_icmp_ne (tgt := 15) X.hx X.hb dX6_readItem_5 (by decide) (fun c24 => ?_) (fun c24 => ?_)
  · have hf := it_n hf c24
    refine lv_iconst (v := 0) X.hx X.hb dX6_readItem_15 (by decide) ?_
    exact bX6_readItem_16 X  ho   _ _  hf _ _ _ hH hS (lv_sub hl [0] rfl)
  · have hf := it_p hf c24
    refine lv_aload_n X.hx X.hb dX6_readItem_8 rfl (lv_at hl 0 rfl) ?_
    refine gfX6_108 X hH ho dX6_readItem_9 ?_
    refine lv_goto (tgt := 16) X.hx X.hb dX6_readItem_12 (by decide) ?_
    exact bX6_readItem_16 X  ho   _ _  hf _ _ _ hH hS (lv_sub hl [0] rfl)
set_option maxRecDepth 20000 in
set_option maxHeartbeats 4000000 in
theorem bX6_island_178 {p : Program} {l : Launch} {e : Env} {s : State} {m : MethodId} {args : Array Value} {below : List Frame} {meth : Method} {c : Code} {G : gG} (X : gX p s m args meth c yX6_island cX6_island 3 (some .int) RX6 G) {o : Nat} (ho : gsh G o = some 6)  {r : Int32} {σ' : Mem} : (∀ (n : Nat) (σ : Mem) (x1 : Int32) (x2 : Int32), fX6_island_178 o n σ x1 x2 = some (r, σ') → ∀ (H : Heap) (locs : List Loc) (ls : Array Slot), gH G σ H → va_S (gAA G) s.heap H locs → lv_has ls 3 [(0, .ref (gad G o 0)), (1, .int x1), (2, .int x2)] → WB p l e 6 134 s m args below meth c G (some (.int r)) σ' H locs (F0 m 178 ls [])) := by
  intro n
  induction n with
  | zero => intro σ x1 x2 hf H locs ls hH hS hl; exact nomatch (show (none : Option (Int32 × Mem)) = some _ from hf)
  | succ n ih =>
    intro σ x1 x2 hf H locs ls hH hS hl
    rw [fX6_island_178.eq_2] at hf
    refine lv_iload_n X.hx X.hb dX6_island_178 rfl (lv_at hl 2 rfl) ?_
    refine lv_bipush (v := 26) X.hx X.hb dX6_island_179 (by decide) ?_
    refine lv_icmp_ge (tgt := 212) X.hx X.hb dX6_island_181 (by decide) (fun c32 => ?_) (fun c32 => ?_)
    · have hf := it_p hf c32
      refine lv_aload_n X.hx X.hb dX6_island_212 rfl (lv_at hl 0 rfl) ?_
      refine lv_iconst (v := 0) X.hx X.hb dX6_island_213 (by decide) ?_
      refine pfX6_152 X hH hS ho  dX6_island_214 (fun H locs hH hS => ?_)
      obtain ⟨σ33, he, hf⟩ := stp_e hf
      rw [← he] at hH
      clear he
      refine lv_aload_n X.hx X.hb dX6_island_217 rfl (lv_at hl 0 rfl) ?_
      refine lv_iconst (v := 0) X.hx X.hb dX6_island_218 (by decide) ?_
      refine pfX6_155 X hH hS ho  dX6_island_219 (fun H locs hH hS => ?_)
      obtain ⟨σ34, he, hf⟩ := stp_e hf
      rw [← he] at hH
      clear he
      refine lv_aload_n X.hx X.hb dX6_island_222 rfl (lv_at hl 0 rfl) ?_
      refine gfX6_35 X hH ho dX6_island_223 ?_
      refine lv_iconst (v := 0) X.hx X.hb dX6_island_226 (by decide) ?_
      refine lv_iconst (v := 0) X.hx X.hb dX6_island_227 (by decide) ?_
      obtain ⟨hg, hf⟩ := gd_e hf
      refine g_zast X hH hS ⟨_, ho, rfl⟩ rfl hg dX6_island_228 (fun H locs hH hS => ?_)
      obtain ⟨σ35, he, hf⟩ := stp_e hf
      rw [← he] at hH
      clear he
      refine lv_aload_n X.hx X.hb dX6_island_229 rfl (lv_at hl 0 rfl) ?_
      refine gfX6_35 X hH ho dX6_island_230 ?_
      refine lv_iconst (v := 1) X.hx X.hb dX6_island_233 (by decide) ?_
      refine lv_iconst (v := 0) X.hx X.hb dX6_island_234 (by decide) ?_
      obtain ⟨hg, hf⟩ := gd_e hf
      refine g_zast X hH hS ⟨_, ho, rfl⟩ rfl hg dX6_island_235 (fun H locs hH hS => ?_)
      obtain ⟨σ36, he, hf⟩ := stp_e hf
      rw [← he] at hH
      clear he
      refine lv_aload_n X.hx X.hb dX6_island_236 rfl (lv_at hl 0 rfl) ?_
      refine lv_iconst (v := 0) X.hx X.hb dX6_island_237 (by decide) ?_
      refine pfX6_92 X hH hS ho  dX6_island_238 (fun H locs hH hS => ?_)
      obtain ⟨σ37, he, hf⟩ := stp_e hf
      rw [← he] at hH
      clear he
      refine lv_iload_n X.hx X.hb dX6_island_241 rfl (lv_at hl 1 rfl) ?_
      have e := so2 hf
      rw [e.2] at hH
      exact g_iret X hH hS rfl e.1 dX6_island_242
    · have hf := it_n hf c32
      refine lv_aload_n X.hx X.hb dX6_island_184 rfl (lv_at hl 0 rfl) ?_
      refine gfX6_26 X hH ho dX6_island_185 ?_
      refine lv_iload_n X.hx X.hb dX6_island_188 rfl (lv_at hl 2 rfl) ?_
      refine lv_iload_n X.hx X.hb dX6_island_189 rfl (lv_at hl 2 rfl) ?_
      refine lv_iconst (v := 2) X.hx X.hb dX6_island_190 (by decide) ?_
      refine lv_bipush (v := 7) X.hx X.hb dX6_island_191 (by decide) ?_
      obtain ⟨r38, hr, hf⟩ := bd_e hf
      refine g_callSI (As := [.int x2, .int (2 : Int32), .int (7 : Int32)]) (rest := [.int x2, .ref (gad G o (7 + 1))]) X (kX6_in l  hr) ⟨cdX6_in, mlX6_85, stX6_in, iniX6⟩ hsX6_in ⟨Nat.le_of_ble_eq_true rfl, Nat.le_of_ble_eq_true rfl⟩ hH hS hl rfl rfl (Nat.le_of_ble_eq_true rfl) ⟨Nat.le_refl 0, Nat.le_refl 0⟩ dX6_island_193 (fun H locs hH hS => ?_)
      refine lv_if_eq (tgt := 204) X.hx X.hb dX6_island_196 (by decide) (fun c39 => ?_) (fun c39 => ?_)
      · have hf := it_p hf c39
        refine lv_iconst (v := 0) X.hx X.hb dX6_island_204 (by decide) ?_
        obtain ⟨hg, hf⟩ := gd_e hf
        refine g_iast X hH hS ⟨_, ho, rfl⟩ hg dX6_island_205 (fun H locs hH hS => ?_)
        obtain ⟨σ40, he, hf⟩ := stp_e hf
        rw [← he] at hH
        clear he
        refine lv_iinc (v := x2 + 1) (lv' := [(2, .int (x2 + 1)), (0, .ref (gad G o 0)), (1, .int x1)]) X.hx X.hb dX6_island_206 hl (k := 2) rfl rfl (by decide) rfl (fun ls hl => ?_)
        refine lv_goto (tgt := 178) X.hx X.hb dX6_island_209 (by decide) ?_
        exact ih _ _ _  hf _ _ _ hH hS (lv_sub hl [1, 2, 0] rfl)
      · have hf := it_n hf c39
        refine lv_bipush (v := -9) X.hx X.hb dX6_island_199 (by decide) ?_
        refine lv_goto (tgt := 205) X.hx X.hb dX6_island_201 (by decide) ?_
        obtain ⟨hg, hf⟩ := gd_e hf
        refine g_iast X hH hS ⟨_, ho, rfl⟩ hg dX6_island_205 (fun H locs hH hS => ?_)
        obtain ⟨σ41, he, hf⟩ := stp_e hf
        rw [← he] at hH
        clear he
        refine lv_iinc (v := x2 + 1) (lv' := [(2, .int (x2 + 1)), (0, .ref (gad G o 0)), (1, .int x1)]) X.hx X.hb dX6_island_206 hl (k := 2) rfl rfl (by decide) rfl (fun ls hl => ?_)
        refine lv_goto (tgt := 178) X.hx X.hb dX6_island_209 (by decide) ?_
        exact ih _ _ _  hf _ _ _ hH hS (lv_sub hl [1, 2, 0] rfl)
set_option maxRecDepth 20000 in
set_option maxHeartbeats 4000000 in
theorem bX6_island_140 {p : Program} {l : Launch} {e : Env} {s : State} {m : MethodId} {args : Array Value} {below : List Frame} {meth : Method} {c : Code} {G : gG} (X : gX p s m args meth c yX6_island cX6_island 3 (some .int) RX6 G) {o : Nat} (ho : gsh G o = some 6)  {r : Int32} {σ' : Mem} : (∀ (n : Nat) (σ : Mem) (x1 : Int32) (x2 : Int32), fX6_island_140 o n σ x1 x2 = some (r, σ') → ∀ (H : Heap) (locs : List Loc) (ls : Array Slot), gH G σ H → va_S (gAA G) s.heap H locs → lv_has ls 3 [(0, .ref (gad G o 0)), (1, .int x1), (2, .int x2)] → WB p l e 6 134 s m args below meth c G (some (.int r)) σ' H locs (F0 m 140 ls [])) := by
  intro n
  induction n with
  | zero => intro σ x1 x2 hf H locs ls hH hS hl; exact nomatch (show (none : Option (Int32 × Mem)) = some _ from hf)
  | succ n ih =>
    intro σ x1 x2 hf H locs ls hH hS hl
    rw [fX6_island_140.eq_2] at hf
    refine lv_iload_n X.hx X.hb dX6_island_140 rfl (lv_at hl 2 rfl) ?_
    refine lv_bipush (v := 12) X.hx X.hb dX6_island_141 (by decide) ?_
    refine lv_icmp_ge (tgt := 176) X.hx X.hb dX6_island_143 (by decide) (fun c42 => ?_) (fun c42 => ?_)
    · have hf := it_p hf c42
      refine lv_iconst (v := 0) X.hx X.hb dX6_island_176 (by decide) ?_
      refine lv_istore_n (lv' := [(2, .int (0 : Int32)), (0, .ref (gad G o 0)), (1, .int x1)]) X.hx X.hb dX6_island_177 rfl hl (by decide) rfl (fun ls hl => ?_)
      exact bX6_island_178 X  ho  _ _ _ _  hf _ _ _ hH hS (lv_sub hl [1, 2, 0] rfl)
    · have hf := it_n hf c42
      refine lv_aload_n X.hx X.hb dX6_island_146 rfl (lv_at hl 0 rfl) ?_
      refine gfX6_19 X hH ho dX6_island_147 ?_
      refine lv_iload_n X.hx X.hb dX6_island_150 rfl (lv_at hl 2 rfl) ?_
      refine lv_aload_n X.hx X.hb dX6_island_151 rfl (lv_at hl 0 rfl) ?_
      refine gfX6_48 X hH ho dX6_island_152 ?_
      refine lv_iload_n X.hx X.hb dX6_island_155 rfl (lv_at hl 2 rfl) ?_
      obtain ⟨hg, hf⟩ := gd_e hf
      refine g_iald X hH ⟨_, ho, rfl⟩ hg dX6_island_156 ?_
      obtain ⟨hg, hf⟩ := gd_e hf
      refine g_iast X hH hS ⟨_, ho, rfl⟩ hg dX6_island_157 (fun H locs hH hS => ?_)
      obtain ⟨σ43, he, hf⟩ := stp_e hf
      rw [← he] at hH
      clear he
      refine lv_aload_n X.hx X.hb dX6_island_158 rfl (lv_at hl 0 rfl) ?_
      refine gfX6_23 X hH ho dX6_island_159 ?_
      refine lv_iload_n X.hx X.hb dX6_island_162 rfl (lv_at hl 2 rfl) ?_
      refine lv_aload_n X.hx X.hb dX6_island_163 rfl (lv_at hl 0 rfl) ?_
      refine gfX6_51 X hH ho dX6_island_164 ?_
      refine lv_iload_n X.hx X.hb dX6_island_167 rfl (lv_at hl 2 rfl) ?_
      obtain ⟨hg, hf⟩ := gd_e hf
      refine g_iald X hH ⟨_, ho, rfl⟩ hg dX6_island_168 ?_
      obtain ⟨hg, hf⟩ := gd_e hf
      refine g_iast X hH hS ⟨_, ho, rfl⟩ hg dX6_island_169 (fun H locs hH hS => ?_)
      obtain ⟨σ44, he, hf⟩ := stp_e hf
      rw [← he] at hH
      clear he
      refine lv_iinc (v := x2 + 1) (lv' := [(2, .int (x2 + 1)), (0, .ref (gad G o 0)), (1, .int x1)]) X.hx X.hb dX6_island_170 hl (k := 2) rfl rfl (by decide) rfl (fun ls hl => ?_)
      refine lv_goto (tgt := 140) X.hx X.hb dX6_island_173 (by decide) ?_
      exact ih _ _ _  hf _ _ _ hH hS (lv_sub hl [1, 2, 0] rfl)
set_option maxRecDepth 20000 in
set_option maxHeartbeats 4000000 in
theorem bX6_island_77 {p : Program} {l : Launch} {e : Env} {s : State} {m : MethodId} {args : Array Value} {below : List Frame} {meth : Method} {c : Code} {G : gG} (X : gX p s m args meth c yX6_island cX6_island 3 (some .int) RX6 G) {o : Nat} (ho : gsh G o = some 6)  {r : Int32} {σ' : Mem} : (∀ (σ : Mem) (x1 : Int32), fX6_island_77 o σ x1 = some (r, σ') → ∀ (H : Heap) (locs : List Loc) (ls : Array Slot), gH G σ H → va_S (gAA G) s.heap H locs → lv_has ls 3 [(0, .ref (gad G o 0)), (1, .int x1)] → WB p l e 6 134 s m args below meth c G (some (.int r)) σ' H locs (F0 m 77 ls [])) := by
  intro σ x1 hf H locs ls hH hS hl
  rw [fX6_island_77.eq_1] at hf
  refine lv_aload_n X.hx X.hb dX6_island_77 rfl (lv_at hl 0 rfl) ?_
  refine gfX6_111 X hH ho dX6_island_78 ?_
  refine lv_if_eq (tgt := 92) X.hx X.hb dX6_island_81 (by decide) (fun c45 => ?_) (fun c45 => ?_)
  · have hf := it_p hf c45
    refine lv_aload_n X.hx X.hb dX6_island_92 rfl (lv_at hl 0 rfl) ?_
    refine lv_aload_n X.hx X.hb dX6_island_93 rfl (lv_at hl 0 rfl) ?_
    refine gfX6_54 X hH ho dX6_island_94 ?_
    refine lv_iconst (v := 0) X.hx X.hb dX6_island_97 (by decide) ?_
    obtain ⟨hg, hf⟩ := gd_e hf
    refine g_iald X hH ⟨_, ho, rfl⟩ hg dX6_island_98 ?_
    refine pfX6_7 X hH hS ho  dX6_island_99 (fun H locs hH hS => ?_)
    obtain ⟨σ46, he, hf⟩ := stp_e hf
    rw [← he] at hH
    clear he
    refine lv_aload_n X.hx X.hb dX6_island_102 rfl (lv_at hl 0 rfl) ?_
    refine lv_aload_n X.hx X.hb dX6_island_103 rfl (lv_at hl 0 rfl) ?_
    refine gfX6_54 X hH ho dX6_island_104 ?_
    refine lv_iconst (v := 1) X.hx X.hb dX6_island_107 (by decide) ?_
    obtain ⟨hg, hf⟩ := gd_e hf
    refine g_iald X hH ⟨_, ho, rfl⟩ hg dX6_island_108 ?_
    refine pfX6_13 X hH hS ho  dX6_island_109 (fun H locs hH hS => ?_)
    obtain ⟨σ47, he, hf⟩ := stp_e hf
    rw [← he] at hH
    clear he
    refine lv_aload_n X.hx X.hb dX6_island_112 rfl (lv_at hl 0 rfl) ?_
    refine lv_aload_n X.hx X.hb dX6_island_113 rfl (lv_at hl 0 rfl) ?_
    refine gfX6_54 X hH ho dX6_island_114 ?_
    refine lv_iconst (v := 2) X.hx X.hb dX6_island_117 (by decide) ?_
    obtain ⟨hg, hf⟩ := gd_e hf
    refine g_iald X hH ⟨_, ho, rfl⟩ hg dX6_island_118 ?_
    refine pfX6_16 X hH hS ho  dX6_island_119 (fun H locs hH hS => ?_)
    obtain ⟨σ48, he, hf⟩ := stp_e hf
    rw [← he] at hH
    clear he
    refine lv_aload_n X.hx X.hb dX6_island_122 rfl (lv_at hl 0 rfl) ?_
    refine lv_aload_n X.hx X.hb dX6_island_123 rfl (lv_at hl 0 rfl) ?_
    refine gfX6_133 X hH ho dX6_island_124 ?_
    refine pfX6_82 X hH hS ho  dX6_island_127 (fun H locs hH hS => ?_)
    obtain ⟨σ49, he, hf⟩ := stp_e hf
    rw [← he] at hH
    clear he
    refine lv_aload_n X.hx X.hb dX6_island_130 rfl (lv_at hl 0 rfl) ?_
    refine lv_aload_n X.hx X.hb dX6_island_131 rfl (lv_at hl 0 rfl) ?_
    refine gfX6_136 X hH ho dX6_island_132 ?_
    refine pfX6_89 X hH hS ho  dX6_island_135 (fun H locs hH hS => ?_)
    obtain ⟨σ50, he, hf⟩ := stp_e hf
    rw [← he] at hH
    clear he
    refine lv_iconst (v := 0) X.hx X.hb dX6_island_138 (by decide) ?_
    refine lv_istore_n (lv' := [(2, .int (0 : Int32)), (0, .ref (gad G o 0)), (1, .int x1)]) X.hx X.hb dX6_island_139 rfl hl (by decide) rfl (fun ls hl => ?_)
    exact bX6_island_140 X  ho  _ _ _ _  hf _ _ _ hH hS (lv_sub hl [1, 2, 0] rfl)
  · have hf := it_n hf c45
    refine lv_bipush (v := -10) X.hx X.hb dX6_island_84 (by decide) ?_
    refine lv_aload_n X.hx X.hb dX6_island_86 rfl (lv_at hl 0 rfl) ?_
    refine gfX6_102 X hH ho dX6_island_87 ?_
    refine lv_isub X.hx X.hb dX6_island_90 ?_
    have e := so2 hf
    rw [e.2] at hH
    exact g_iret X hH hS rfl e.1 dX6_island_91
set_option maxRecDepth 20000 in
set_option maxHeartbeats 4000000 in
theorem bX6_island_53 {p : Program} {l : Launch} {e : Env} {s : State} {m : MethodId} {args : Array Value} {below : List Frame} {meth : Method} {c : Code} {G : gG} (X : gX p s m args meth c yX6_island cX6_island 3 (some .int) RX6 G) {o : Nat} (ho : gsh G o = some 6)  {r : Int32} {σ' : Mem} : (∀ (n : Nat) (σ : Mem) (x1 : Int32), fX6_island_53 o n σ x1 = some (r, σ') → ∀ (H : Heap) (locs : List Loc) (ls : Array Slot), gH G σ H → va_S (gAA G) s.heap H locs → lv_has ls 3 [(0, .ref (gad G o 0)), (1, .int x1)] → WB p l e 6 134 s m args below meth c G (some (.int r)) σ' H locs (F0 m 53 ls [])) := by
  intro n
  induction n with
  | zero => intro σ x1 hf H locs ls hH hS hl; exact nomatch (show (none : Option (Int32 × Mem)) = some _ from hf)
  | succ n ih =>
    intro σ x1 hf H locs ls hH hS hl
    rw [fX6_island_53.eq_2] at hf
    refine lv_aload_n X.hx X.hb dX6_island_53 rfl (lv_at hl 0 rfl) ?_
    refine gfX6_105 X hH ho dX6_island_54 ?_
    refine lv_if_eq (tgt := 77) X.hx X.hb dX6_island_57 (by decide) (fun c51 => ?_) (fun c51 => ?_)
    · have hf := it_p hf c51
      exact bX6_island_77 X  ho   _ _  hf _ _ _ hH hS (lv_sub hl [0, 1] rfl)
    · have hf := it_n hf c51
      refine lv_aload_n X.hx X.hb dX6_island_60 rfl (lv_at hl 0 rfl) ?_
      refine gfX6_111 X hH ho dX6_island_61 ?_
      refine lv_if_ne (tgt := 77) X.hx X.hb dX6_island_64 (by decide) (fun c52 => ?_) (fun c52 => ?_)
      · have hf := it_n hf c52
        exact bX6_island_77 X  ho   _ _  hf _ _ _ hH hS (lv_sub hl [0, 1] rfl)
      · have hf := it_p hf c52
        refine lv_aload_n X.hx X.hb dX6_island_67 rfl (lv_at hl 0 rfl) ?_
        obtain ⟨σ53, hr, hf⟩ := bd_e hf
        refine g_callVV (As := []) (rest := []) X (kX6_readItem l ho hr) (C := RX6) (T := TX6) (N := 39) (ci := 6) rfl ho ⟨cdX6_readItem, mlX6_149, imX6_readItem, seX6_readItem, iniX6⟩ hvX6_readItem ⟨Nat.le_of_ble_eq_true rfl, Nat.le_of_ble_eq_true rfl⟩ hH hS hl rfl rfl (Nat.le_of_ble_eq_true rfl) ⟨Nat.le_refl 0, Nat.le_refl 0⟩ dX6_island_68 (fun H locs hH hS => ?_)
        refine lv_iinc (v := x1 + 1) (lv' := [(1, .int (x1 + 1)), (0, .ref (gad G o 0))]) X.hx X.hb dX6_island_71 hl (k := 1) rfl rfl (by decide) rfl (fun ls hl => ?_)
        refine lv_goto (tgt := 53) X.hx X.hb dX6_island_74 (by decide) ?_
        exact ih _ _  hf _ _ _ hH hS (lv_sub hl [1, 0] rfl)
set_option maxRecDepth 20000 in
set_option maxHeartbeats 4000000 in
theorem kX6_island (l : Launch) {G : gG} {σ : Mem} {r : Int32} {σ' : Mem} {o : Nat} (ho : gsh G o = some 6)  (hf : fX6_island σ o = some (r, σ')) : CM l yX6_island cX6_island 3 (some .int) 6 134 G σ [.ref (gad G o 0)] (some (.int r)) σ' := by
  refine CM.of (by decide) (Nat.le_of_ble_eq_true rfl) (fun p e s m below meth c ls X hH hl => ?_)
  have X : gX p s m _ meth c yX6_island cX6_island 3 (some .int) RX6 G := X
  have hS : va_S (gAA G) s.heap s.heap [] := va_S.rf
  have hl : lv_has ls 3 [(0, .ref (gad G o 0))] := hl
  rw [fX6_island.eq_1] at hf
  refine lv_aload_n X.hx X.hb dX6_island_0 rfl (lv_at hl 0 rfl) ?_
  refine lv_iconst (v := 0) X.hx X.hb dX6_island_1 (by decide) ?_
  refine pfX6_95 X hH hS ho  dX6_island_2 (fun H locs hH hS => ?_)
  obtain ⟨σ54, he, hf⟩ := stp_e hf
  rw [← he] at hH
  clear he
  refine lv_aload_n X.hx X.hb dX6_island_5 rfl (lv_at hl 0 rfl) ?_
  refine lv_iconst (v := 0) X.hx X.hb dX6_island_6 (by decide) ?_
  refine pfX6_111 X hH hS ho (by decide) dX6_island_7 (fun H locs hH hS => ?_)
  obtain ⟨σ55, he, hf⟩ := stp_e hf
  rw [← he] at hH
  clear he
  refine lv_aload_n X.hx X.hb dX6_island_10 rfl (lv_at hl 0 rfl) ?_
  refine gfX6_54 X hH ho dX6_island_11 ?_
  refine lv_iconst (v := 0) X.hx X.hb dX6_island_14 (by decide) ?_
  refine lv_bipush (v := 10) X.hx X.hb dX6_island_15 (by decide) ?_
  obtain ⟨hg, hf⟩ := gd_e hf
  refine g_iast X hH hS ⟨_, ho, rfl⟩ hg dX6_island_17 (fun H locs hH hS => ?_)
  obtain ⟨σ56, he, hf⟩ := stp_e hf
  rw [← he] at hH
  clear he
  refine lv_aload_n X.hx X.hb dX6_island_18 rfl (lv_at hl 0 rfl) ?_
  refine gfX6_54 X hH ho dX6_island_19 ?_
  refine lv_iconst (v := 1) X.hx X.hb dX6_island_22 (by decide) ?_
  refine lv_iconst (v := 2) X.hx X.hb dX6_island_23 (by decide) ?_
  obtain ⟨hg, hf⟩ := gd_e hf
  refine g_iast X hH hS ⟨_, ho, rfl⟩ hg dX6_island_24 (fun H locs hH hS => ?_)
  obtain ⟨σ57, he, hf⟩ := stp_e hf
  rw [← he] at hH
  clear he
  refine lv_aload_n X.hx X.hb dX6_island_25 rfl (lv_at hl 0 rfl) ?_
  refine gfX6_54 X hH ho dX6_island_26 ?_
  refine lv_iconst (v := 2) X.hx X.hb dX6_island_29 (by decide) ?_
  refine lv_iconst (v := 1) X.hx X.hb dX6_island_30 (by decide) ?_
  obtain ⟨hg, hf⟩ := gd_e hf
  refine g_iast X hH hS ⟨_, ho, rfl⟩ hg dX6_island_31 (fun H locs hH hS => ?_)
  obtain ⟨σ58, he, hf⟩ := stp_e hf
  rw [← he] at hH
  clear he
  refine lv_aload_n X.hx X.hb dX6_island_32 rfl (lv_at hl 0 rfl) ?_
  refine lv_iconst (v := 0) X.hx X.hb dX6_island_33 (by decide) ?_
  refine pfX6_122 X hH hS ho  dX6_island_34 (fun H locs hH hS => ?_)
  obtain ⟨σ59, he, hf⟩ := stp_e hf
  rw [← he] at hH
  clear he
  refine lv_aload_n X.hx X.hb dX6_island_37 rfl (lv_at hl 0 rfl) ?_
  refine lv_iconst (v := 0) X.hx X.hb dX6_island_38 (by decide) ?_
  refine pfX6_133 X hH hS ho  dX6_island_39 (fun H locs hH hS => ?_)
  obtain ⟨σ60, he, hf⟩ := stp_e hf
  rw [← he] at hH
  clear he
  refine lv_aload_n X.hx X.hb dX6_island_42 rfl (lv_at hl 0 rfl) ?_
  refine lv_iconst (v := 0) X.hx X.hb dX6_island_43 (by decide) ?_
  refine pfX6_136 X hH hS ho  dX6_island_44 (fun H locs hH hS => ?_)
  obtain ⟨σ61, he, hf⟩ := stp_e hf
  rw [← he] at hH
  clear he
  refine lv_iconst (v := 0) X.hx X.hb dX6_island_47 (by decide) ?_
  refine lv_istore_n (lv' := [(1, .int (0 : Int32)), (0, .ref (gad G o 0))]) X.hx X.hb dX6_island_48 rfl hl (by decide) rfl (fun ls hl => ?_)
  refine lv_aload_n X.hx X.hb dX6_island_49 rfl (lv_at hl 1 rfl) ?_
  obtain ⟨σ62, hr, hf⟩ := bd_e hf
  refine g_callVV (As := []) (rest := []) X (kX6_next l ho hr) (C := RX6) (T := TX6) (N := 39) (ci := 6) rfl ho ⟨cdX6_next, mlX6_115, imX6_next, seX6_next, iniX6⟩ hvX6_next ⟨Nat.le_of_ble_eq_true rfl, Nat.le_of_ble_eq_true rfl⟩ hH hS hl rfl rfl (Nat.le_of_ble_eq_true rfl) ⟨Nat.le_refl 0, Nat.le_refl 0⟩ dX6_island_50 (fun H locs hH hS => ?_)
  exact bX6_island_53 X  ho  _ _ _  hf _ _ _ hH hS (lv_sub hl [1, 0] rfl)
set_option maxRecDepth 20000 in
set_option maxHeartbeats 4000000 in
theorem kX6_mayLeave (l : Launch) {G : gG} {σ : Mem} {r : Int32} {o : Nat} {x1 : Int32} (ho : gsh G o = some 6)  (hf : fX6_mayLeave σ o x1 = some r) : CM l yX6_mayLeave cX6_mayLeave 2 (some .boolean) 0 0 G σ [.ref (gad G o 0), .int x1] (some (.int r)) σ := by
  refine CM.of (by decide) (Nat.le_of_ble_eq_true rfl) (fun p e s m below meth c ls X hH hl => ?_)
  have X : gX p s m _ meth c yX6_mayLeave cX6_mayLeave 2 (some .boolean) RX6 G := X
  have hS : va_S (gAA G) s.heap s.heap [] := va_S.rf
  have hl : lv_has ls 2 [(0, .ref (gad G o 0)), (1, .int x1)] := hl
  rw [fX6_mayLeave.eq_1] at hf
  refine lv_aload_n X.hx X.hb dX6_mayLeave_0 rfl (lv_at hl 0 rfl) ?_
  refine gfX6_26 X hH ho dX6_mayLeave_1 ?_
  refine lv_iconst (v := 2) X.hx X.hb dX6_mayLeave_4 (by decide) ?_
  refine lv_iload_n X.hx X.hb dX6_mayLeave_5 rfl (lv_at hl 1 rfl) ?_
  refine lv_iadd X.hx X.hb dX6_mayLeave_6 ?_
  obtain ⟨hg, hf⟩ := gd_e hf
  refine g_iald X hH ⟨_, ho, rfl⟩ hg dX6_mayLeave_7 ?_
  refine lv_bipush (v := -9) X.hx X.hb dX6_mayLeave_8 (by decide) ?_
  refine lv_icmp_eq (tgt := 33) X.hx X.hb dX6_mayLeave_10 (by decide) (fun c3 => ?_) (fun c3 => ?_)
  · have hf := it_p hf c3
    refine lv_iconst (v := 0) X.hx X.hb dX6_mayLeave_33 (by decide) ?_
    exact g_zret X hH hS rfl (so1 hf) (by decide) dX6_mayLeave_34
  · have hf := it_n hf c3
    refine lv_aload_n X.hx X.hb dX6_mayLeave_13 rfl (lv_at hl 0 rfl) ?_
    refine gfX6_26 X hH ho dX6_mayLeave_14 ?_
    refine lv_bipush (v := 8) X.hx X.hb dX6_mayLeave_17 (by decide) ?_
    refine lv_iload_n X.hx X.hb dX6_mayLeave_19 rfl (lv_at hl 1 rfl) ?_
    refine lv_iadd X.hx X.hb dX6_mayLeave_20 ?_
    obtain ⟨hg, hf⟩ := gd_e hf
    refine g_iald X hH ⟨_, ho, rfl⟩ hg dX6_mayLeave_21 ?_
    refine lv_aload_n X.hx X.hb dX6_mayLeave_22 rfl (lv_at hl 0 rfl) ?_
    refine gfX6_7 X hH ho dX6_mayLeave_23 ?_
    refine lv_icmp_lt (tgt := 33) X.hx X.hb dX6_mayLeave_26 (by decide) (fun c4 => ?_) (fun c4 => ?_)
    · have hf := it_p hf c4
      refine lv_iconst (v := 0) X.hx X.hb dX6_mayLeave_33 (by decide) ?_
      exact g_zret X hH hS rfl (so1 hf) (by decide) dX6_mayLeave_34
    · have hf := it_n hf c4
      refine lv_iconst (v := 1) X.hx X.hb dX6_mayLeave_29 (by decide) ?_
      refine lv_goto (tgt := 34) X.hx X.hb dX6_mayLeave_30 (by decide) ?_
      exact g_zret X hH hS rfl (so1 hf) (by decide) dX6_mayLeave_34
set_option maxRecDepth 20000 in
set_option maxHeartbeats 4000000 in
theorem kX6_sailsOn (l : Launch) {G : gG} {σ : Mem} {r : Int32} {o : Nat} {x1 : Int32} (ho : gsh G o = some 6)  (hf : fX6_sailsOn σ o x1 = some r) : CM l yX6_sailsOn cX6_sailsOn 2 (some .boolean) 0 0 G σ [.ref (gad G o 0), .int x1] (some (.int r)) σ := by
  refine CM.of (by decide) (Nat.le_of_ble_eq_true rfl) (fun p e s m below meth c ls X hH hl => ?_)
  have X : gX p s m _ meth c yX6_sailsOn cX6_sailsOn 2 (some .boolean) RX6 G := X
  have hS : va_S (gAA G) s.heap s.heap [] := va_S.rf
  have hl : lv_has ls 2 [(0, .ref (gad G o 0)), (1, .int x1)] := hl
  rw [fX6_sailsOn.eq_1] at hf
  refine lv_iload_n X.hx X.hb dX6_sailsOn_0 rfl (lv_at hl 1 rfl) ?_
  refine lv_aload_n X.hx X.hb dX6_sailsOn_1 rfl (lv_at hl 0 rfl) ?_
  refine gfX6_16 X hH ho dX6_sailsOn_2 ?_
  obtain ⟨hg, hf⟩ := gd_e hf
  refine lv_irem X.hx X.hb dX6_sailsOn_5 (of_decide_eq_true hg) ?_
  refine lv_if_ne (tgt := 13) X.hx X.hb dX6_sailsOn_6 (by decide) (fun c2 => ?_) (fun c2 => ?_)
  · have hf := it_n hf c2
    refine lv_iconst (v := 0) X.hx X.hb dX6_sailsOn_13 (by decide) ?_
    exact g_zret X hH hS rfl (so1 hf) (by decide) dX6_sailsOn_14
  · have hf := it_p hf c2
    refine lv_iconst (v := 1) X.hx X.hb dX6_sailsOn_9 (by decide) ?_
    refine lv_goto (tgt := 14) X.hx X.hb dX6_sailsOn_10 (by decide) ?_
    exact g_zret X hH hS rfl (so1 hf) (by decide) dX6_sailsOn_14
set_option maxRecDepth 20000 in
set_option maxHeartbeats 4000000 in
theorem kX6_traveller (l : Launch) {G : gG} {σ : Mem} {r : Int32} {o : Nat} {x1 : Int32} {x2 : Int32} (ho : gsh G o = some 6)  (hf : fX6_traveller σ o x1 x2 = some r) : CM l yX6_traveller cX6_traveller 3 (some .int) 2 43 G σ [.ref (gad G o 0), .int x1, .int x2] (some (.int r)) σ := by
  refine CM.of (by decide) (Nat.le_of_ble_eq_true rfl) (fun p e s m below meth c ls X hH hl => ?_)
  have X : gX p s m _ meth c yX6_traveller cX6_traveller 3 (some .int) RX6 G := X
  have hS : va_S (gAA G) s.heap s.heap [] := va_S.rf
  have hl : lv_has ls 3 [(0, .ref (gad G o 0)), (1, .int x1), (2, .int x2)] := hl
  rw [fX6_traveller.eq_1] at hf
  refine lv_aload_n X.hx X.hb dX6_traveller_0 rfl (lv_at hl 0 rfl) ?_
  refine lv_iload_n X.hx X.hb dX6_traveller_1 rfl (lv_at hl 1 rfl) ?_
  obtain ⟨r8, hr, hf⟩ := bd_e hf
  refine g_callVI (As := [.int x1]) (rest := []) X (kX6_isTraveller l ho hr) (C := RX6) (T := TX6) (N := 39) (ci := 6) rfl ho ⟨cdX6_isTraveller, mlX6_158, imX6_isTraveller, seX6_isTraveller, iniX6⟩ hvX6_isTraveller ⟨Nat.le_of_ble_eq_true rfl, Nat.le_of_ble_eq_true rfl⟩ hH hS hl rfl rfl (Nat.le_of_ble_eq_true rfl) ⟨Nat.le_refl 0, Nat.le_refl 0⟩ dX6_traveller_2 (fun H locs hH hS => ?_)
  refine lv_if_eq (tgt := 17) X.hx X.hb dX6_traveller_5 (by decide) (fun c9 => ?_) (fun c9 => ?_)
  · have hf := it_p hf c9
    refine lv_iconst (v := -1) X.hx X.hb dX6_traveller_17 (by decide) ?_
    exact g_iret X hH hS rfl (so1 hf) dX6_traveller_18
  · have hf := it_n hf c9
    refine lv_iload_n X.hx X.hb dX6_traveller_8 rfl (lv_at hl 2 rfl) ?_
    refine lv_iconst (v := 0) X.hx X.hb dX6_traveller_9 (by decide) ?_
    refine lv_iconst (v := 4) X.hx X.hb dX6_traveller_10 (by decide) ?_
    obtain ⟨r10, hr, hf⟩ := bd_e hf
    refine g_callSI (As := [.int x2, .int (0 : Int32), .int (4 : Int32)]) (rest := []) X (kX6_in l  hr) ⟨cdX6_in, mlX6_85, stX6_in, iniX6⟩ hsX6_in ⟨Nat.le_of_ble_eq_true rfl, Nat.le_of_ble_eq_true rfl⟩ hH hS hl rfl rfl (Nat.le_of_ble_eq_true rfl) ⟨Nat.le_refl 0, Nat.le_refl 0⟩ dX6_traveller_11 (fun H locs hH hS => ?_)
    refine lv_if_ne (tgt := 19) X.hx X.hb dX6_traveller_14 (by decide) (fun c11 => ?_) (fun c11 => ?_)
    · have hf := it_n hf c11
      refine lv_iload_n X.hx X.hb dX6_traveller_19 rfl (lv_at hl 2 rfl) ?_
      refine lv_iconst (v := 2) X.hx X.hb dX6_traveller_20 (by decide) ?_
      refine lv_icmp_ge (tgt := 37) X.hx X.hb dX6_traveller_21 (by decide) (fun c12 => ?_) (fun c12 => ?_)
      · have hf := it_p hf c12
        refine lv_iload_n X.hx X.hb dX6_traveller_37 rfl (lv_at hl 2 rfl) ?_
        refine lv_iconst (v := 2) X.hx X.hb dX6_traveller_38 (by decide) ?_
        refine lv_icmp_ne (tgt := 53) X.hx X.hb dX6_traveller_39 (by decide) (fun c13 => ?_) (fun c13 => ?_)
        · have hf := it_n hf c13
          refine lv_iload_n X.hx X.hb dX6_traveller_53 rfl (lv_at hl 2 rfl) ?_
          refine lv_iconst (v := 3) X.hx X.hb dX6_traveller_54 (by decide) ?_
          refine lv_icmp_ne (tgt := 70) X.hx X.hb dX6_traveller_55 (by decide) (fun c14 => ?_) (fun c14 => ?_)
          · have hf := it_n hf c14
            refine lv_aload_n X.hx X.hb dX6_traveller_70 rfl (lv_at hl 0 rfl) ?_
            refine gfX6_26 X hH ho dX6_traveller_71 ?_
            refine lv_bipush (v := 14) X.hx X.hb dX6_traveller_74 (by decide) ?_
            refine lv_iload_n X.hx X.hb dX6_traveller_76 rfl (lv_at hl 1 rfl) ?_
            refine lv_iadd X.hx X.hb dX6_traveller_77 ?_
            obtain ⟨hg, hf⟩ := gd_e hf
            refine g_iald X hH ⟨_, ho, rfl⟩ hg dX6_traveller_78 ?_
            exact g_iret X hH hS rfl (so1 hf) dX6_traveller_79
          · have hf := it_p hf c14
            refine lv_aload_n X.hx X.hb dX6_traveller_58 rfl (lv_at hl 0 rfl) ?_
            refine gfX6_26 X hH ho dX6_traveller_59 ?_
            refine lv_bipush (v := 8) X.hx X.hb dX6_traveller_62 (by decide) ?_
            refine lv_iload_n X.hx X.hb dX6_traveller_64 rfl (lv_at hl 1 rfl) ?_
            refine lv_iadd X.hx X.hb dX6_traveller_65 ?_
            obtain ⟨hg, hf⟩ := gd_e hf
            refine g_iald X hH ⟨_, ho, rfl⟩ hg dX6_traveller_66 ?_
            refine lv_goto (tgt := 79) X.hx X.hb dX6_traveller_67 (by decide) ?_
            exact g_iret X hH hS rfl (so1 hf) dX6_traveller_79
        · have hf := it_p hf c13
          refine lv_aload_n X.hx X.hb dX6_traveller_42 rfl (lv_at hl 0 rfl) ?_
          refine gfX6_26 X hH ho dX6_traveller_43 ?_
          refine lv_iconst (v := 2) X.hx X.hb dX6_traveller_46 (by decide) ?_
          refine lv_iload_n X.hx X.hb dX6_traveller_47 rfl (lv_at hl 1 rfl) ?_
          refine lv_iadd X.hx X.hb dX6_traveller_48 ?_
          obtain ⟨hg, hf⟩ := gd_e hf
          refine g_iald X hH ⟨_, ho, rfl⟩ hg dX6_traveller_49 ?_
          refine lv_goto (tgt := 79) X.hx X.hb dX6_traveller_50 (by decide) ?_
          exact g_iret X hH hS rfl (so1 hf) dX6_traveller_79
      · have hf := it_n hf c12
        refine lv_aload_n X.hx X.hb dX6_traveller_24 rfl (lv_at hl 0 rfl) ?_
        refine gfX6_19 X hH ho dX6_traveller_25 ?_
        refine lv_iconst (v := 2) X.hx X.hb dX6_traveller_28 (by decide) ?_
        refine lv_iload_n X.hx X.hb dX6_traveller_29 rfl (lv_at hl 1 rfl) ?_
        refine lv_imul X.hx X.hb dX6_traveller_30 ?_
        refine lv_iload_n X.hx X.hb dX6_traveller_31 rfl (lv_at hl 2 rfl) ?_
        refine lv_iadd X.hx X.hb dX6_traveller_32 ?_
        obtain ⟨hg, hf⟩ := gd_e hf
        refine g_iald X hH ⟨_, ho, rfl⟩ hg dX6_traveller_33 ?_
        refine lv_goto (tgt := 79) X.hx X.hb dX6_traveller_34 (by decide) ?_
        exact g_iret X hH hS rfl (so1 hf) dX6_traveller_79
    · have hf := it_p hf c11
      refine lv_iconst (v := -1) X.hx X.hb dX6_traveller_17 (by decide) ?_
      exact g_iret X hH hS rfl (so1 hf) dX6_traveller_18
set_option maxRecDepth 20000 in
set_option maxHeartbeats 4000000 in
theorem kX6_clerk (l : Launch) {G : gG} {σ : Mem} {r : Int32} {o : Nat} {x1 : Int32} {x2 : Int32} (ho : gsh G o = some 6)  (hf : fX6_clerk σ o x1 x2 = some r) : CM l yX6_clerk cX6_clerk 3 (some .int) 2 43 G σ [.ref (gad G o 0), .int x1, .int x2] (some (.int r)) σ := by
  refine CM.of (by decide) (Nat.le_of_ble_eq_true rfl) (fun p e s m below meth c ls X hH hl => ?_)
  have X : gX p s m _ meth c yX6_clerk cX6_clerk 3 (some .int) RX6 G := X
  have hS : va_S (gAA G) s.heap s.heap [] := va_S.rf
  have hl : lv_has ls 3 [(0, .ref (gad G o 0)), (1, .int x1), (2, .int x2)] := hl
  rw [fX6_clerk.eq_1] at hf
  refine lv_aload_n X.hx X.hb dX6_clerk_0 rfl (lv_at hl 0 rfl) ?_
  refine lv_iload_n X.hx X.hb dX6_clerk_1 rfl (lv_at hl 1 rfl) ?_
  obtain ⟨r5, hr, hf⟩ := bd_e hf
  refine g_callVI (As := [.int x1]) (rest := []) X (kX6_isClerk l ho hr) (C := RX6) (T := TX6) (N := 39) (ci := 6) rfl ho ⟨cdX6_isClerk, mlX6_162, imX6_isClerk, seX6_isClerk, iniX6⟩ hvX6_isClerk ⟨Nat.le_of_ble_eq_true rfl, Nat.le_of_ble_eq_true rfl⟩ hH hS hl rfl rfl (Nat.le_of_ble_eq_true rfl) ⟨Nat.le_refl 0, Nat.le_refl 0⟩ dX6_clerk_2 (fun H locs hH hS => ?_)
  refine lv_if_eq (tgt := 30) X.hx X.hb dX6_clerk_5 (by decide) (fun c6 => ?_) (fun c6 => ?_)
  · have hf := it_p hf c6
    refine lv_iconst (v := -1) X.hx X.hb dX6_clerk_30 (by decide) ?_
    exact g_iret X hH hS rfl (so1 hf) dX6_clerk_31
  · have hf := it_n hf c6
    refine lv_iload_n X.hx X.hb dX6_clerk_8 rfl (lv_at hl 2 rfl) ?_
    refine lv_iconst (v := 0) X.hx X.hb dX6_clerk_9 (by decide) ?_
    refine lv_iconst (v := 2) X.hx X.hb dX6_clerk_10 (by decide) ?_
    obtain ⟨r7, hr, hf⟩ := bd_e hf
    refine g_callSI (As := [.int x2, .int (0 : Int32), .int (2 : Int32)]) (rest := []) X (kX6_in l  hr) ⟨cdX6_in, mlX6_85, stX6_in, iniX6⟩ hsX6_in ⟨Nat.le_of_ble_eq_true rfl, Nat.le_of_ble_eq_true rfl⟩ hH hS hl rfl rfl (Nat.le_of_ble_eq_true rfl) ⟨Nat.le_refl 0, Nat.le_refl 0⟩ dX6_clerk_11 (fun H locs hH hS => ?_)
    refine lv_if_eq (tgt := 30) X.hx X.hb dX6_clerk_14 (by decide) (fun c8 => ?_) (fun c8 => ?_)
    · have hf := it_p hf c8
      refine lv_iconst (v := -1) X.hx X.hb dX6_clerk_30 (by decide) ?_
      exact g_iret X hH hS rfl (so1 hf) dX6_clerk_31
    · have hf := it_n hf c8
      refine lv_aload_n X.hx X.hb dX6_clerk_17 rfl (lv_at hl 0 rfl) ?_
      refine gfX6_23 X hH ho dX6_clerk_18 ?_
      refine lv_iconst (v := 3) X.hx X.hb dX6_clerk_21 (by decide) ?_
      refine lv_iload_n X.hx X.hb dX6_clerk_22 rfl (lv_at hl 1 rfl) ?_
      refine lv_imul X.hx X.hb dX6_clerk_23 ?_
      refine lv_iload_n X.hx X.hb dX6_clerk_24 rfl (lv_at hl 2 rfl) ?_
      refine lv_iadd X.hx X.hb dX6_clerk_25 ?_
      obtain ⟨hg, hf⟩ := gd_e hf
      refine g_iald X hH ⟨_, ho, rfl⟩ hg dX6_clerk_26 ?_
      refine lv_goto (tgt := 31) X.hx X.hb dX6_clerk_27 (by decide) ?_
      exact g_iret X hH hS rfl (so1 hf) dX6_clerk_31
set_option maxRecDepth 20000 in
set_option maxHeartbeats 4000000 in
theorem bX6_leavers_4 {p : Program} {l : Launch} {e : Env} {s : State} {m : MethodId} {args : Array Value} {below : List Frame} {meth : Method} {c : Code} {G : gG} (X : gX p s m args meth c yX6_leavers cX6_leavers 3 (some .int) RX6 G) {o : Nat} (ho : gsh G o = some 6)  {σ : Mem} {r : Int32} : (∀ (n : Nat) (x1 : Int32) (x2 : Int32), fX6_leavers_4 σ o n x1 x2 = some r → ∀ (H : Heap) (locs : List Loc) (ls : Array Slot), gH G σ H → va_S (gAA G) s.heap H locs → lv_has ls 3 [(0, .ref (gad G o 0)), (1, .int x1), (2, .int x2)] → WB p l e 1 21 s m args below meth c G (some (.int r)) σ H locs (F0 m 4 ls [])) := by
  intro n
  induction n with
  | zero => intro x1 x2 hf H locs ls hH hS hl; exact nomatch (show (none : Option Int32) = some _ from hf)
  | succ n ih =>
    intro x1 x2 hf H locs ls hH hS hl
    rw [fX6_leavers_4.eq_2] at hf
    refine lv_iload_n X.hx X.hb dX6_leavers_4 rfl (lv_at hl 2 rfl) ?_
    refine lv_aload_n X.hx X.hb dX6_leavers_5 rfl (lv_at hl 0 rfl) ?_
    refine gfX6_82 X hH ho dX6_leavers_6 ?_
    refine lv_icmp_ge (tgt := 36) X.hx X.hb dX6_leavers_9 (by decide) (fun c4 => ?_) (fun c4 => ?_)
    · have hf := it_p hf c4
      refine lv_iload_n X.hx X.hb dX6_leavers_36 rfl (lv_at hl 1 rfl) ?_
      exact g_iret X hH hS rfl (so1 hf) dX6_leavers_37
    · have hf := it_n hf c4
      refine lv_iload_n X.hx X.hb dX6_leavers_12 rfl (lv_at hl 1 rfl) ?_
      refine lv_aload_n X.hx X.hb dX6_leavers_13 rfl (lv_at hl 0 rfl) ?_
      refine lv_iload_n X.hx X.hb dX6_leavers_14 rfl (lv_at hl 2 rfl) ?_
      obtain ⟨r5, hr, hf⟩ := bd_e hf
      refine g_callVI (As := [.int x2]) (rest := [.int x1]) X (kX6_mayLeave l ho hr) (C := RX6) (T := TX6) (N := 39) (ci := 6) rfl ho ⟨cdX6_mayLeave, mlX6_165, imX6_mayLeave, seX6_mayLeave, iniX6⟩ hvX6_mayLeave ⟨Nat.le_of_ble_eq_true rfl, Nat.le_of_ble_eq_true rfl⟩ hH hS hl rfl rfl (Nat.le_of_ble_eq_true rfl) ⟨Nat.le_refl 0, Nat.le_refl 0⟩ dX6_leavers_15 (fun H locs hH hS => ?_)
      refine lv_if_eq (tgt := 27) X.hx X.hb dX6_leavers_18 (by decide) (fun c6 => ?_) (fun c6 => ?_)
      · have hf := it_p hf c6
        refine lv_iconst (v := 0) X.hx X.hb dX6_leavers_27 (by decide) ?_
        refine lv_ior X.hx X.hb dX6_leavers_28 ?_
        refine lv_istore_n (lv' := [(1, .int (x1 ||| (0 : Int32))), (0, .ref (gad G o 0)), (2, .int x2)]) X.hx X.hb dX6_leavers_29 rfl hl (by decide) rfl (fun ls hl => ?_)
        refine lv_iinc (v := x2 + 1) (lv' := [(2, .int (x2 + 1)), (1, .int (x1 ||| (0 : Int32))), (0, .ref (gad G o 0))]) X.hx X.hb dX6_leavers_30 hl (k := 2) rfl rfl (by decide) rfl (fun ls hl => ?_)
        refine lv_goto (tgt := 4) X.hx X.hb dX6_leavers_33 (by decide) ?_
        exact ih _ _  hf _ _ _ hH hS (lv_sub hl [2, 1, 0] rfl)
      · have hf := it_n hf c6
        refine lv_iconst (v := 1) X.hx X.hb dX6_leavers_21 (by decide) ?_
        refine lv_iload_n X.hx X.hb dX6_leavers_22 rfl (lv_at hl 2 rfl) ?_
        refine lv_ishl X.hx X.hb dX6_leavers_23 ?_
        refine lv_goto (tgt := 28) X.hx X.hb dX6_leavers_24 (by decide) ?_
        refine lv_ior X.hx X.hb dX6_leavers_28 ?_
        refine lv_istore_n (lv' := [(1, .int (x1 ||| ((1 : Int32) <<< (x2 &&& 31)))), (0, .ref (gad G o 0)), (2, .int x2)]) X.hx X.hb dX6_leavers_29 rfl hl (by decide) rfl (fun ls hl => ?_)
        refine lv_iinc (v := x2 + 1) (lv' := [(2, .int (x2 + 1)), (1, .int (x1 ||| ((1 : Int32) <<< (x2 &&& 31)))), (0, .ref (gad G o 0))]) X.hx X.hb dX6_leavers_30 hl (k := 2) rfl rfl (by decide) rfl (fun ls hl => ?_)
        refine lv_goto (tgt := 4) X.hx X.hb dX6_leavers_33 (by decide) ?_
        exact ih _ _  hf _ _ _ hH hS (lv_sub hl [2, 1, 0] rfl)
set_option maxRecDepth 20000 in
set_option maxHeartbeats 4000000 in
theorem kX6_leavers (l : Launch) {G : gG} {σ : Mem} {r : Int32} {o : Nat} (ho : gsh G o = some 6)  (hf : fX6_leavers σ o = some r) : CM l yX6_leavers cX6_leavers 3 (some .int) 1 21 G σ [.ref (gad G o 0)] (some (.int r)) σ := by
  refine CM.of (by decide) (Nat.le_of_ble_eq_true rfl) (fun p e s m below meth c ls X hH hl => ?_)
  have X : gX p s m _ meth c yX6_leavers cX6_leavers 3 (some .int) RX6 G := X
  have hS : va_S (gAA G) s.heap s.heap [] := va_S.rf
  have hl : lv_has ls 3 [(0, .ref (gad G o 0))] := hl
  rw [fX6_leavers.eq_1] at hf
  refine lv_iconst (v := 0) X.hx X.hb dX6_leavers_0 (by decide) ?_
  refine lv_istore_n (lv' := [(1, .int (0 : Int32)), (0, .ref (gad G o 0))]) X.hx X.hb dX6_leavers_1 rfl hl (by decide) rfl (fun ls hl => ?_)
  refine lv_iconst (v := 0) X.hx X.hb dX6_leavers_2 (by decide) ?_
  refine lv_istore_n (lv' := [(2, .int (0 : Int32)), (1, .int (0 : Int32)), (0, .ref (gad G o 0))]) X.hx X.hb dX6_leavers_3 rfl hl (by decide) rfl (fun ls hl => ?_)
  exact bX6_leavers_4 X  ho  _ _ _  hf _ _ _ hH hS (lv_sub hl [2, 1, 0] rfl)
set_option maxRecDepth 20000 in
set_option maxHeartbeats 4000000 in
theorem bX6_goneSet_4 {p : Program} {l : Launch} {e : Env} {s : State} {m : MethodId} {args : Array Value} {below : List Frame} {meth : Method} {c : Code} {G : gG} (X : gX p s m args meth c yX6_goneSet cX6_goneSet 3 (some .int) RX6 G) {o : Nat} (ho : gsh G o = some 6)  {σ : Mem} {r : Int32} : (∀ (n : Nat) (x1 : Int32) (x2 : Int32), fX6_goneSet_4 σ o n x1 x2 = some r → ∀ (H : Heap) (locs : List Loc) (ls : Array Slot), gH G σ H → va_S (gAA G) s.heap H locs → lv_has ls 3 [(0, .ref (gad G o 0)), (1, .int x1), (2, .int x2)] → WB p l e 0 0 s m args below meth c G (some (.int r)) σ H locs (F0 m 4 ls [])) := by
  intro n
  induction n with
  | zero => intro x1 x2 hf H locs ls hH hS hl; exact nomatch (show (none : Option Int32) = some _ from hf)
  | succ n ih =>
    intro x1 x2 hf H locs ls hH hS hl
    rw [fX6_goneSet_4.eq_2] at hf
    refine lv_iload_n X.hx X.hb dX6_goneSet_4 rfl (lv_at hl 2 rfl) ?_
    refine lv_aload_n X.hx X.hb dX6_goneSet_5 rfl (lv_at hl 0 rfl) ?_
    refine gfX6_82 X hH ho dX6_goneSet_6 ?_
    refine lv_icmp_ge (tgt := 32) X.hx X.hb dX6_goneSet_9 (by decide) (fun c2 => ?_) (fun c2 => ?_)
    · have hf := it_p hf c2
      refine lv_iload_n X.hx X.hb dX6_goneSet_32 rfl (lv_at hl 1 rfl) ?_
      exact g_iret X hH hS rfl (so1 hf) dX6_goneSet_33
    · have hf := it_n hf c2
      refine lv_iload_n X.hx X.hb dX6_goneSet_12 rfl (lv_at hl 1 rfl) ?_
      refine lv_aload_n X.hx X.hb dX6_goneSet_13 rfl (lv_at hl 0 rfl) ?_
      refine gfX6_26 X hH ho dX6_goneSet_14 ?_
      refine lv_bipush (v := 14) X.hx X.hb dX6_goneSet_17 (by decide) ?_
      refine lv_iload_n X.hx X.hb dX6_goneSet_19 rfl (lv_at hl 2 rfl) ?_
      refine lv_iadd X.hx X.hb dX6_goneSet_20 ?_
      obtain ⟨hg, hf⟩ := gd_e hf
      refine g_iald X hH ⟨_, ho, rfl⟩ hg dX6_goneSet_21 ?_
      refine lv_iload_n X.hx X.hb dX6_goneSet_22 rfl (lv_at hl 2 rfl) ?_
      refine lv_ishl X.hx X.hb dX6_goneSet_23 ?_
      refine lv_ior X.hx X.hb dX6_goneSet_24 ?_
      refine lv_istore_n (lv' := [(1, .int (x1 ||| ((mA σ o 7 ((14 : Int32) + x2).toNatClampNeg) <<< (x2 &&& 31)))), (0, .ref (gad G o 0)), (2, .int x2)]) X.hx X.hb dX6_goneSet_25 rfl hl (by decide) rfl (fun ls hl => ?_)
      refine lv_iinc (v := x2 + 1) (lv' := [(2, .int (x2 + 1)), (1, .int (x1 ||| ((mA σ o 7 ((14 : Int32) + x2).toNatClampNeg) <<< (x2 &&& 31)))), (0, .ref (gad G o 0))]) X.hx X.hb dX6_goneSet_26 hl (k := 2) rfl rfl (by decide) rfl (fun ls hl => ?_)
      refine lv_goto (tgt := 4) X.hx X.hb dX6_goneSet_29 (by decide) ?_
      exact ih _ _  hf _ _ _ hH hS (lv_sub hl [2, 1, 0] rfl)
set_option maxRecDepth 20000 in
set_option maxHeartbeats 4000000 in
theorem kX6_goneSet (l : Launch) {G : gG} {σ : Mem} {r : Int32} {o : Nat} (ho : gsh G o = some 6)  (hf : fX6_goneSet σ o = some r) : CM l yX6_goneSet cX6_goneSet 3 (some .int) 0 0 G σ [.ref (gad G o 0)] (some (.int r)) σ := by
  refine CM.of (by decide) (Nat.le_of_ble_eq_true rfl) (fun p e s m below meth c ls X hH hl => ?_)
  have X : gX p s m _ meth c yX6_goneSet cX6_goneSet 3 (some .int) RX6 G := X
  have hS : va_S (gAA G) s.heap s.heap [] := va_S.rf
  have hl : lv_has ls 3 [(0, .ref (gad G o 0))] := hl
  rw [fX6_goneSet.eq_1] at hf
  refine lv_iconst (v := 0) X.hx X.hb dX6_goneSet_0 (by decide) ?_
  refine lv_istore_n (lv' := [(1, .int (0 : Int32)), (0, .ref (gad G o 0))]) X.hx X.hb dX6_goneSet_1 rfl hl (by decide) rfl (fun ls hl => ?_)
  refine lv_iconst (v := 0) X.hx X.hb dX6_goneSet_2 (by decide) ?_
  refine lv_istore_n (lv' := [(2, .int (0 : Int32)), (1, .int (0 : Int32)), (0, .ref (gad G o 0))]) X.hx X.hb dX6_goneSet_3 rfl hl (by decide) rfl (fun ls hl => ?_)
  exact bX6_goneSet_4 X  ho  _ _ _  hf _ _ _ hH hS (lv_sub hl [2, 1, 0] rfl)
set_option maxRecDepth 20000 in
set_option maxHeartbeats 4000000 in
theorem kX6_now (l : Launch) {G : gG} {σ : Mem} {r : Int32} {o : Nat} {x1 : Int32} (ho : gsh G o = some 6)  (hf : fX6_now σ o x1 = some r) : CM l yX6_now cX6_now 2 (some .int) 2 43 G σ [.ref (gad G o 0), .int x1] (some (.int r)) σ := by
  refine CM.of (by decide) (Nat.le_of_ble_eq_true rfl) (fun p e s m below meth c ls X hH hl => ?_)
  have X : gX p s m _ meth c yX6_now cX6_now 2 (some .int) RX6 G := X
  have hS : va_S (gAA G) s.heap s.heap [] := va_S.rf
  have hl : lv_has ls 2 [(0, .ref (gad G o 0)), (1, .int x1)] := hl
  rw [fX6_now.eq_1] at hf
  refine lv_iload_n X.hx X.hb dX6_now_0 rfl (lv_at hl 1 rfl) ?_
  by_cases c11 : x1 = (0 : Int32)
  · have hf := it_p hf c11
    refine lv_tableIn (tgt := 40) X.hx X.hb dX6_now_1 (by rw [c11]; decide) (by rw [c11]; decide) (off := 39) (by rw [c11]; decide) (by decide) ?_
    refine lv_aload_n X.hx X.hb dX6_now_40 rfl (lv_at hl 0 rfl) ?_
    refine gfX6_26 X hH ho dX6_now_41 ?_
    refine lv_iconst (v := 0) X.hx X.hb dX6_now_44 (by decide) ?_
    obtain ⟨hg, hf⟩ := gd_e hf
    refine g_iald X hH ⟨_, ho, rfl⟩ hg dX6_now_45 ?_
    exact g_iret X hH hS rfl (so1 hf) dX6_now_46
  · have hf := it_n hf c11
    by_cases c12 : x1 = (1 : Int32)
    · have hf := it_p hf c12
      refine lv_tableIn (tgt := 47) X.hx X.hb dX6_now_1 (by rw [c12]; decide) (by rw [c12]; decide) (off := 46) (by rw [c12]; decide) (by decide) ?_
      refine lv_aload_n X.hx X.hb dX6_now_47 rfl (lv_at hl 0 rfl) ?_
      refine gfX6_26 X hH ho dX6_now_48 ?_
      refine lv_iconst (v := 1) X.hx X.hb dX6_now_51 (by decide) ?_
      obtain ⟨hg, hf⟩ := gd_e hf
      refine g_iald X hH ⟨_, ho, rfl⟩ hg dX6_now_52 ?_
      exact g_iret X hH hS rfl (so1 hf) dX6_now_53
    · have hf := it_n hf c12
      by_cases c13 : x1 = (2 : Int32)
      · have hf := it_p hf c13
        refine lv_tableIn (tgt := 54) X.hx X.hb dX6_now_1 (by rw [c13]; decide) (by rw [c13]; decide) (off := 53) (by rw [c13]; decide) (by decide) ?_
        refine lv_aload_n X.hx X.hb dX6_now_54 rfl (lv_at hl 0 rfl) ?_
        obtain ⟨r14, hr, hf⟩ := bd_e hf
        refine g_callVI (As := []) (rest := []) X (kX6_leavers l ho hr) (C := RX6) (T := TX6) (N := 39) (ci := 6) rfl ho ⟨cdX6_leavers, mlX6_168, imX6_leavers, seX6_leavers, iniX6⟩ hvX6_leavers ⟨Nat.le_of_ble_eq_true rfl, Nat.le_of_ble_eq_true rfl⟩ hH hS hl rfl rfl (Nat.le_of_ble_eq_true rfl) ⟨Nat.le_refl 0, Nat.le_refl 0⟩ dX6_now_55 (fun H locs hH hS => ?_)
        exact g_iret X hH hS rfl (so1 hf) dX6_now_58
      · have hf := it_n hf c13
        by_cases c15 : x1 = (3 : Int32)
        · have hf := it_p hf c15
          refine lv_tableIn (tgt := 59) X.hx X.hb dX6_now_1 (by rw [c15]; decide) (by rw [c15]; decide) (off := 58) (by rw [c15]; decide) (by decide) ?_
          refine lv_aload_n X.hx X.hb dX6_now_59 rfl (lv_at hl 0 rfl) ?_
          obtain ⟨r16, hr, hf⟩ := bd_e hf
          refine g_callVI (As := []) (rest := []) X (kX6_goneSet l ho hr) (C := RX6) (T := TX6) (N := 39) (ci := 6) rfl ho ⟨cdX6_goneSet, mlX6_172, imX6_goneSet, seX6_goneSet, iniX6⟩ hvX6_goneSet ⟨Nat.le_of_ble_eq_true rfl, Nat.le_of_ble_eq_true rfl⟩ hH hS hl rfl rfl (Nat.le_of_ble_eq_true rfl) ⟨Nat.le_refl 0, Nat.le_refl 0⟩ dX6_now_60 (fun H locs hH hS => ?_)
          exact g_iret X hH hS rfl (so1 hf) dX6_now_63
        · have hf := it_n hf c15
          by_cases c17 : x1 = (4 : Int32)
          · have hf := it_p hf c17
            refine lv_tableIn (tgt := 64) X.hx X.hb dX6_now_1 (by rw [c17]; decide) (by rw [c17]; decide) (off := 63) (by rw [c17]; decide) (by decide) ?_
            refine lv_aload_n X.hx X.hb dX6_now_64 rfl (lv_at hl 0 rfl) ?_
            refine lv_aload_n X.hx X.hb dX6_now_65 rfl (lv_at hl 0 rfl) ?_
            refine gfX6_26 X hH ho dX6_now_66 ?_
            refine lv_iconst (v := 0) X.hx X.hb dX6_now_69 (by decide) ?_
            obtain ⟨hg, hf⟩ := gd_e hf
            refine g_iald X hH ⟨_, ho, rfl⟩ hg dX6_now_70 ?_
            obtain ⟨r18, hr, hf⟩ := bd_e hf
            refine g_callVI (As := [.int (mA σ o 7 (0 : Int32).toNatClampNeg)]) (rest := []) X (kX6_sailsOn l ho hr) (C := RX6) (T := TX6) (N := 39) (ci := 6) rfl ho ⟨cdX6_sailsOn, mlX6_175, imX6_sailsOn, seX6_sailsOn, iniX6⟩ hvX6_sailsOn ⟨Nat.le_of_ble_eq_true rfl, Nat.le_of_ble_eq_true rfl⟩ hH hS hl rfl rfl (Nat.le_of_ble_eq_true rfl) ⟨Nat.le_refl 0, Nat.le_refl 0⟩ dX6_now_71 (fun H locs hH hS => ?_)
            refine lv_if_eq (tgt := 81) X.hx X.hb dX6_now_74 (by decide) (fun c19 => ?_) (fun c19 => ?_)
            · have hf := it_p hf c19
              refine lv_iconst (v := 0) X.hx X.hb dX6_now_81 (by decide) ?_
              exact g_iret X hH hS rfl (so1 hf) dX6_now_82
            · have hf := it_n hf c19
              refine lv_iconst (v := 1) X.hx X.hb dX6_now_77 (by decide) ?_
              refine lv_goto (tgt := 82) X.hx X.hb dX6_now_78 (by decide) ?_
              exact g_iret X hH hS rfl (so1 hf) dX6_now_82
          · have hf := it_n hf c17
            by_cases c20 : x1 = (5 : Int32)
            · have hf := it_p hf c20
              refine lv_tableIn (tgt := 83) X.hx X.hb dX6_now_1 (by rw [c20]; decide) (by rw [c20]; decide) (off := 82) (by rw [c20]; decide) (by decide) ?_
              refine lv_aload_n X.hx X.hb dX6_now_83 rfl (lv_at hl 0 rfl) ?_
              refine gfX6_152 X hH ho dX6_now_84 ?_
              exact g_iret X hH hS rfl (so1 hf) dX6_now_87
            · have hf := it_n hf c20
              refine lv_tableOut (tgt := 88) X.hx X.hb dX6_now_1 (by have := c11; have e0 := lv_neT c11 (a := 0) (by decide); have e1 := lv_neT c12 (a := 1) (by decide); have e2 := lv_neT c13 (a := 2) (by decide); have e3 := lv_neT c15 (a := 3) (by decide); have e4 := lv_neT c17 (a := 4) (by decide); have e5 := lv_neT c20 (a := 5) (by decide); omega) (by decide) ?_
              refine lv_iconst (v := -1) X.hx X.hb dX6_now_88 (by decide) ?_
              exact g_iret X hH hS rfl (so1 hf) dX6_now_89
set_option maxRecDepth 20000 in
set_option maxHeartbeats 4000000 in
theorem bX6_remembers_51 {p : Program} {l : Launch} {e : Env} {s : State} {m : MethodId} {args : Array Value} {below : List Frame} {meth : Method} {c : Code} {G : gG} (X : gX p s m args meth c yX6_remembers cX6_remembers 2 none RX6 G) {o : Nat} (ho : gsh G o = some 6)  {σ' : Mem} : (∀ (n : Nat) (σ : Mem) (x1 : Int32), fX6_remembers_51 o n σ x1 = some σ' → ∀ (H : Heap) (locs : List Loc) (ls : Array Slot), gH G σ H → va_S (gAA G) s.heap H locs → lv_has ls 2 [(0, .ref (gad G o 0)), (1, .int x1)] → WB p l e 0 0 s m args below meth c G none σ' H locs (F0 m 51 ls [])) := by
  intro n
  induction n with
  | zero => intro σ x1 hf H locs ls hH hS hl; exact nomatch (show (none : Option Mem) = some _ from hf)
  | succ n ih =>
    intro σ x1 hf H locs ls hH hS hl
    rw [fX6_remembers_51.eq_2] at hf
    refine lv_iload_n X.hx X.hb dX6_remembers_51 rfl (lv_at hl 1 rfl) ?_
    refine lv_bipush (v := 26) X.hx X.hb dX6_remembers_52 (by decide) ?_
    refine lv_icmp_ge (tgt := 83) X.hx X.hb dX6_remembers_54 (by decide) (fun c8 => ?_) (fun c8 => ?_)
    · have hf := it_p hf c8
      refine lv_aload_n X.hx X.hb dX6_remembers_83 rfl (lv_at hl 0 rfl) ?_
      refine lv_dup X.hx X.hb dX6_remembers_84 rfl ?_
      refine gfX6_152 X hH ho dX6_remembers_85 ?_
      refine lv_iconst (v := 1) X.hx X.hb dX6_remembers_88 (by decide) ?_
      refine lv_iadd X.hx X.hb dX6_remembers_89 ?_
      refine pfX6_152 X hH hS ho  dX6_remembers_90 (fun H locs hH hS => ?_)
      obtain ⟨σ9, he, hf⟩ := stp_e hf
      rw [← he] at hH
      clear he
      have e := so1 hf
      rw [e] at hH
      exact g_vret X hH hS rfl dX6_remembers_93
    · have hf := it_n hf c8
      refine lv_aload_n X.hx X.hb dX6_remembers_57 rfl (lv_at hl 0 rfl) ?_
      refine gfX6_29 X hH ho dX6_remembers_58 ?_
      refine lv_bipush (v := 26) X.hx X.hb dX6_remembers_61 (by decide) ?_
      refine lv_aload_n X.hx X.hb dX6_remembers_63 rfl (lv_at hl 0 rfl) ?_
      refine gfX6_152 X hH ho dX6_remembers_64 ?_
      refine lv_imul X.hx X.hb dX6_remembers_67 ?_
      refine lv_iload_n X.hx X.hb dX6_remembers_68 rfl (lv_at hl 1 rfl) ?_
      refine lv_iadd X.hx X.hb dX6_remembers_69 ?_
      refine lv_aload_n X.hx X.hb dX6_remembers_70 rfl (lv_at hl 0 rfl) ?_
      refine gfX6_26 X hH ho dX6_remembers_71 ?_
      refine lv_iload_n X.hx X.hb dX6_remembers_74 rfl (lv_at hl 1 rfl) ?_
      obtain ⟨hg, hf⟩ := gd_e hf
      refine g_iald X hH ⟨_, ho, rfl⟩ hg dX6_remembers_75 ?_
      obtain ⟨hg, hf⟩ := gd_e hf
      refine g_iast X hH hS ⟨_, ho, rfl⟩ hg dX6_remembers_76 (fun H locs hH hS => ?_)
      obtain ⟨σ10, he, hf⟩ := stp_e hf
      rw [← he] at hH
      clear he
      refine lv_iinc (v := x1 + 1) (lv' := [(1, .int (x1 + 1)), (0, .ref (gad G o 0))]) X.hx X.hb dX6_remembers_77 hl (k := 1) rfl rfl (by decide) rfl (fun ls hl => ?_)
      refine lv_goto (tgt := 51) X.hx X.hb dX6_remembers_80 (by decide) ?_
      exact ih _ _  hf _ _ _ hH hS (lv_sub hl [1, 0] rfl)
set_option maxRecDepth 20000 in
set_option maxHeartbeats 4000000 in
theorem bX6_remembers_11 {p : Program} {l : Launch} {e : Env} {s : State} {m : MethodId} {args : Array Value} {below : List Frame} {meth : Method} {c : Code} {G : gG} (X : gX p s m args meth c yX6_remembers cX6_remembers 2 none RX6 G) {o : Nat} (ho : gsh G o = some 6)  {σ' : Mem} : (∀ (n : Nat) (σ : Mem) (x1 : Int32), fX6_remembers_11 o n σ x1 = some σ' → ∀ (H : Heap) (locs : List Loc) (ls : Array Slot), gH G σ H → va_S (gAA G) s.heap H locs → lv_has ls 2 [(0, .ref (gad G o 0)), (1, .int x1)] → WB p l e 0 0 s m args below meth c G none σ' H locs (F0 m 11 ls [])) := by
  intro n
  induction n with
  | zero => intro σ x1 hf H locs ls hH hS hl; exact nomatch (show (none : Option Mem) = some _ from hf)
  | succ n ih =>
    intro σ x1 hf H locs ls hH hS hl
    rw [fX6_remembers_11.eq_2] at hf
    refine lv_iload_n X.hx X.hb dX6_remembers_11 rfl (lv_at hl 1 rfl) ?_
    refine lv_sipush (v := 234) X.hx X.hb dX6_remembers_12 (by decide) ?_
    refine lv_icmp_ge (tgt := 39) X.hx X.hb dX6_remembers_15 (by decide) (fun c11 => ?_) (fun c11 => ?_)
    · have hf := it_p hf c11
      refine lv_aload_n X.hx X.hb dX6_remembers_39 rfl (lv_at hl 0 rfl) ?_
      refine lv_dup X.hx X.hb dX6_remembers_40 rfl ?_
      refine gfX6_152 X hH ho dX6_remembers_41 ?_
      refine lv_iconst (v := 1) X.hx X.hb dX6_remembers_44 (by decide) ?_
      refine lv_isub X.hx X.hb dX6_remembers_45 ?_
      refine pfX6_152 X hH hS ho  dX6_remembers_46 (fun H locs hH hS => ?_)
      obtain ⟨σ12, he, hf⟩ := stp_e hf
      rw [← he] at hH
      clear he
      refine lv_iconst (v := 0) X.hx X.hb dX6_remembers_49 (by decide) ?_
      refine lv_istore_n (lv' := [(1, .int (0 : Int32)), (0, .ref (gad G o 0))]) X.hx X.hb dX6_remembers_50 rfl hl (by decide) rfl (fun ls hl => ?_)
      exact bX6_remembers_51 X  ho  _ _ _  hf _ _ _ hH hS (lv_sub hl [1, 0] rfl)
    · have hf := it_n hf c11
      refine lv_aload_n X.hx X.hb dX6_remembers_18 rfl (lv_at hl 0 rfl) ?_
      refine gfX6_29 X hH ho dX6_remembers_19 ?_
      refine lv_iload_n X.hx X.hb dX6_remembers_22 rfl (lv_at hl 1 rfl) ?_
      refine lv_aload_n X.hx X.hb dX6_remembers_23 rfl (lv_at hl 0 rfl) ?_
      refine gfX6_29 X hH ho dX6_remembers_24 ?_
      refine lv_iload_n X.hx X.hb dX6_remembers_27 rfl (lv_at hl 1 rfl) ?_
      refine lv_bipush (v := 26) X.hx X.hb dX6_remembers_28 (by decide) ?_
      refine lv_iadd X.hx X.hb dX6_remembers_30 ?_
      obtain ⟨hg, hf⟩ := gd_e hf
      refine g_iald X hH ⟨_, ho, rfl⟩ hg dX6_remembers_31 ?_
      obtain ⟨hg, hf⟩ := gd_e hf
      refine g_iast X hH hS ⟨_, ho, rfl⟩ hg dX6_remembers_32 (fun H locs hH hS => ?_)
      obtain ⟨σ13, he, hf⟩ := stp_e hf
      rw [← he] at hH
      clear he
      refine lv_iinc (v := x1 + 1) (lv' := [(1, .int (x1 + 1)), (0, .ref (gad G o 0))]) X.hx X.hb dX6_remembers_33 hl (k := 1) rfl rfl (by decide) rfl (fun ls hl => ?_)
      refine lv_goto (tgt := 11) X.hx X.hb dX6_remembers_36 (by decide) ?_
      exact ih _ _  hf _ _ _ hH hS (lv_sub hl [1, 0] rfl)
set_option maxRecDepth 20000 in
set_option maxHeartbeats 4000000 in
theorem kX6_remembers (l : Launch) {G : gG} {σ : Mem} {σ' : Mem} {o : Nat} (ho : gsh G o = some 6)  (hf : fX6_remembers σ o = some σ') : CM l yX6_remembers cX6_remembers 2 none 0 0 G σ [.ref (gad G o 0)] none σ' := by
  refine CM.of (by decide) (Nat.le_of_ble_eq_true rfl) (fun p e s m below meth c ls X hH hl => ?_)
  have X : gX p s m _ meth c yX6_remembers cX6_remembers 2 none RX6 G := X
  have hS : va_S (gAA G) s.heap s.heap [] := va_S.rf
  have hl : lv_has ls 2 [(0, .ref (gad G o 0))] := hl
  rw [fX6_remembers.eq_1] at hf
  refine lv_aload_n X.hx X.hb dX6_remembers_0 rfl (lv_at hl 0 rfl) ?_
  refine gfX6_152 X hH ho dX6_remembers_1 ?_
  refine lv_bipush (v := 10) X.hx X.hb dX6_remembers_4 (by decide) ?_
  refine lv_icmp_ne (tgt := 49) X.hx X.hb dX6_remembers_6 (by decide) (fun c14 => ?_) (fun c14 => ?_)
  · have hf := it_n hf c14
    refine lv_iconst (v := 0) X.hx X.hb dX6_remembers_49 (by decide) ?_
    refine lv_istore_n (lv' := [(1, .int (0 : Int32)), (0, .ref (gad G o 0))]) X.hx X.hb dX6_remembers_50 rfl hl (by decide) rfl (fun ls hl => ?_)
    exact bX6_remembers_51 X  ho  _ _ _  hf _ _ _ hH hS (lv_sub hl [1, 0] rfl)
  · have hf := it_p hf c14
    refine lv_iconst (v := 0) X.hx X.hb dX6_remembers_9 (by decide) ?_
    refine lv_istore_n (lv' := [(1, .int (0 : Int32)), (0, .ref (gad G o 0))]) X.hx X.hb dX6_remembers_10 rfl hl (by decide) rfl (fun ls hl => ?_)
    exact bX6_remembers_11 X  ho  _ _ _  hf _ _ _ hH hS (lv_sub hl [1, 0] rfl)
set_option maxRecDepth 20000 in
set_option maxHeartbeats 4000000 in
theorem bX6_puts_139 {p : Program} {l : Launch} {e : Env} {s : State} {m : MethodId} {args : Array Value} {below : List Frame} {meth : Method} {c : Code} {G : gG} (X : gX p s m args meth c yX6_puts cX6_puts 6 (some .int) RX6 G) {o : Nat} (ho : gsh G o = some 6)  {r : Int32} {σ' : Mem} {k82 : Mem → Int32 → Int32 → Int32 → Option (Int32 × Mem)} (hk82 : (∀ (σ : Mem) (x2 : Int32) (x3 : Int32) (x4 : Int32), k82 σ x2 x3 x4 = some (r, σ') → ∀ (H : Heap) (locs : List Loc) (ls : Array Slot), gH G σ H → va_S (gAA G) s.heap H locs → lv_has ls 6 [(0, .ref (gad G o 0)), (2, .int x2), (3, .int x3), (4, .int x4)] → WB p l e 2 43 s m args below meth c G (some (.int r)) σ' H locs (F0 m 82 ls []))) : (∀ (σ : Mem) (x2 : Int32) (x3 : Int32) (x4 : Int32) (x5 : Int32) (xs0 : Int32) (xs1 : Int32), fX6_puts_139 k82 o σ x2 x3 x4 x5 xs0 xs1 = some (r, σ') → ∀ (H : Heap) (locs : List Loc) (ls : Array Slot), gH G σ H → va_S (gAA G) s.heap H locs → lv_has ls 6 [(0, .ref (gad G o 0)), (2, .int x2), (3, .int x3), (4, .int x4), (5, .int x5)] → WB p l e 2 43 s m args below meth c G (some (.int r)) σ' H locs (F0 m 139 ls [.int xs0, .int xs1, .ref (gad G o (7 + 1))])) := by
  intro σ x2 x3 x4 x5 xs0 xs1 hf H locs ls hH hS hl
  rw [fX6_puts_139.eq_1] at hf
  obtain ⟨hg, hf⟩ := gd_e hf
  refine g_iast X hH hS ⟨_, ho, rfl⟩ hg dX6_puts_139 (fun H locs hH hS => ?_)
  obtain ⟨σ15, he, hf⟩ := stp_e hf
  rw [← he] at hH
  clear he
  refine lv_iload_n X.hx X.hb dX6_puts_140 rfl (lv_at hl 2 rfl) ?_
  refine lv_iload X.hx X.hb dX6_puts_141 (lv_at hl 4 rfl) ?_
  refine lv_if_eq (tgt := 150) X.hx X.hb dX6_puts_143 (by decide) (fun c16 => ?_) (fun c16 => ?_)
  · have hf := it_p hf c16
    refine lv_iconst (v := 0) X.hx X.hb dX6_puts_150 (by decide) ?_
    refine lv_iadd X.hx X.hb dX6_puts_151 ?_
    refine lv_istore_n (lv' := [(3, .int (x3 + (0 : Int32))), (0, .ref (gad G o 0)), (2, .int x2), (4, .int x4), (5, .int x5)]) X.hx X.hb dX6_puts_152 rfl hl (by decide) rfl (fun ls hl => ?_)
    refine lv_iinc (v := x4 + 1) (lv' := [(4, .int (x4 + 1)), (3, .int (x3 + (0 : Int32))), (0, .ref (gad G o 0)), (2, .int x2), (5, .int x5)]) X.hx X.hb dX6_puts_153 hl (k := 3) rfl rfl (by decide) rfl (fun ls hl => ?_)
    refine lv_goto (tgt := 82) X.hx X.hb dX6_puts_156 (by decide) ?_
    exact hk82 _ _ _ _  hf _ _ _ hH hS (lv_sub hl [2, 3, 1, 0] rfl)
  · have hf := it_n hf c16
    refine lv_iconst (v := 1) X.hx X.hb dX6_puts_146 (by decide) ?_
    refine lv_goto (tgt := 151) X.hx X.hb dX6_puts_147 (by decide) ?_
    refine lv_iadd X.hx X.hb dX6_puts_151 ?_
    refine lv_istore_n (lv' := [(3, .int (x3 + (1 : Int32))), (0, .ref (gad G o 0)), (2, .int x2), (4, .int x4), (5, .int x5)]) X.hx X.hb dX6_puts_152 rfl hl (by decide) rfl (fun ls hl => ?_)
    refine lv_iinc (v := x4 + 1) (lv' := [(4, .int (x4 + 1)), (3, .int (x3 + (1 : Int32))), (0, .ref (gad G o 0)), (2, .int x2), (5, .int x5)]) X.hx X.hb dX6_puts_153 hl (k := 3) rfl rfl (by decide) rfl (fun ls hl => ?_)
    refine lv_goto (tgt := 82) X.hx X.hb dX6_puts_156 (by decide) ?_
    exact hk82 _ _ _ _  hf _ _ _ hH hS (lv_sub hl [2, 3, 1, 0] rfl)
set_option maxRecDepth 20000 in
set_option maxHeartbeats 4000000 in
theorem bX6_puts_109 {p : Program} {l : Launch} {e : Env} {s : State} {m : MethodId} {args : Array Value} {below : List Frame} {meth : Method} {c : Code} {G : gG} (X : gX p s m args meth c yX6_puts cX6_puts 6 (some .int) RX6 G) {o : Nat} (ho : gsh G o = some 6)  {r : Int32} {σ' : Mem} {k82 : Mem → Int32 → Int32 → Int32 → Option (Int32 × Mem)} (hk82 : (∀ (σ : Mem) (x2 : Int32) (x3 : Int32) (x4 : Int32), k82 σ x2 x3 x4 = some (r, σ') → ∀ (H : Heap) (locs : List Loc) (ls : Array Slot), gH G σ H → va_S (gAA G) s.heap H locs → lv_has ls 6 [(0, .ref (gad G o 0)), (2, .int x2), (3, .int x3), (4, .int x4)] → WB p l e 2 43 s m args below meth c G (some (.int r)) σ' H locs (F0 m 82 ls []))) : (∀ (σ : Mem) (x2 : Int32) (x3 : Int32) (x4 : Int32) (xs0 : Int32), fX6_puts_109 k82 o σ x2 x3 x4 xs0 = some (r, σ') → ∀ (H : Heap) (locs : List Loc) (ls : Array Slot), gH G σ H → va_S (gAA G) s.heap H locs → lv_has ls 6 [(0, .ref (gad G o 0)), (2, .int x2), (3, .int x3), (4, .int x4)] → WB p l e 2 43 s m args below meth c G (some (.int r)) σ' H locs (F0 m 109 ls [.int xs0])) := by
  intro σ x2 x3 x4 xs0 hf H locs ls hH hS hl
  rw [fX6_puts_109.eq_1] at hf
  refine lv_istore (lv' := [(5, .int xs0), (0, .ref (gad G o 0)), (2, .int x2), (3, .int x3), (4, .int x4)]) X.hx X.hb dX6_puts_109 hl (by decide) rfl (fun ls hl => ?_)
  refine lv_aload_n X.hx X.hb dX6_puts_111 rfl (lv_at hl 1 rfl) ?_
  refine gfX6_26 X hH ho dX6_puts_112 ?_
  refine lv_bipush (v := 8) X.hx X.hb dX6_puts_115 (by decide) ?_
  refine lv_iload X.hx X.hb dX6_puts_117 (lv_at hl 4 rfl) ?_
  refine lv_iadd X.hx X.hb dX6_puts_119 ?_
  refine lv_iload X.hx X.hb dX6_puts_120 (lv_at hl 0 rfl) ?_
  refine lv_if_eq (tgt := 129) X.hx X.hb dX6_puts_122 (by decide) (fun c17 => ?_) (fun c17 => ?_)
  · have hf := it_p hf c17
    refine lv_aload_n X.hx X.hb dX6_puts_129 rfl (lv_at hl 1 rfl) ?_
    refine gfX6_26 X hH ho dX6_puts_130 ?_
    refine lv_bipush (v := 8) X.hx X.hb dX6_puts_133 (by decide) ?_
    refine lv_iload X.hx X.hb dX6_puts_135 (lv_at hl 4 rfl) ?_
    refine lv_iadd X.hx X.hb dX6_puts_137 ?_
    obtain ⟨hg, hf⟩ := gd_e hf
    refine g_iald X hH ⟨_, ho, rfl⟩ hg dX6_puts_138 ?_
    exact bX6_puts_139 X  ho hk82  _ _ _ _ _ _ _  hf _ _ _ hH hS (lv_sub hl [1, 2, 3, 4, 0] rfl)
  · have hf := it_n hf c17
    refine lv_iconst (v := 0) X.hx X.hb dX6_puts_125 (by decide) ?_
    refine lv_goto (tgt := 139) X.hx X.hb dX6_puts_126 (by decide) ?_
    exact bX6_puts_139 X  ho hk82  _ _ _ _ _ _ _  hf _ _ _ hH hS (lv_sub hl [1, 2, 3, 4, 0] rfl)
set_option maxRecDepth 20000 in
set_option maxHeartbeats 4000000 in
theorem bX6_puts_82 {p : Program} {l : Launch} {e : Env} {s : State} {m : MethodId} {args : Array Value} {below : List Frame} {meth : Method} {c : Code} {G : gG} (X : gX p s m args meth c yX6_puts cX6_puts 6 (some .int) RX6 G) {o : Nat} (ho : gsh G o = some 6)  {r : Int32} {σ' : Mem} : (∀ (n : Nat) (σ : Mem) (x2 : Int32) (x3 : Int32) (x4 : Int32), fX6_puts_82 o n σ x2 x3 x4 = some (r, σ') → ∀ (H : Heap) (locs : List Loc) (ls : Array Slot), gH G σ H → va_S (gAA G) s.heap H locs → lv_has ls 6 [(0, .ref (gad G o 0)), (2, .int x2), (3, .int x3), (4, .int x4)] → WB p l e 2 43 s m args below meth c G (some (.int r)) σ' H locs (F0 m 82 ls [])) := by
  intro n
  induction n with
  | zero => intro σ x2 x3 x4 hf H locs ls hH hS hl; exact nomatch (show (none : Option (Int32 × Mem)) = some _ from hf)
  | succ n ih =>
    intro σ x2 x3 x4 hf H locs ls hH hS hl
    rw [fX6_puts_82.eq_2] at hf
    refine lv_iload X.hx X.hb dX6_puts_82 (lv_at hl 3 rfl) ?_
    refine lv_aload_n X.hx X.hb dX6_puts_84 rfl (lv_at hl 0 rfl) ?_
    refine gfX6_82 X hH ho dX6_puts_85 ?_
    refine lv_icmp_ge (tgt := 159) X.hx X.hb dX6_puts_88 (by decide) (fun c18 => ?_) (fun c18 => ?_)
    · have hf := it_p hf c18
      refine lv_iload_n X.hx X.hb dX6_puts_159 rfl (lv_at hl 2 rfl) ?_
      have e := so2 hf
      rw [e.2] at hH
      exact g_iret X hH hS rfl e.1 dX6_puts_160
    · have hf := it_n hf c18
      refine lv_aload_n X.hx X.hb dX6_puts_91 rfl (lv_at hl 0 rfl) ?_
      refine gfX6_26 X hH ho dX6_puts_92 ?_
      refine lv_iconst (v := 2) X.hx X.hb dX6_puts_95 (by decide) ?_
      refine lv_iload X.hx X.hb dX6_puts_96 (lv_at hl 3 rfl) ?_
      refine lv_iadd X.hx X.hb dX6_puts_98 ?_
      obtain ⟨hg, hf⟩ := gd_e hf
      refine g_iald X hH ⟨_, ho, rfl⟩ hg dX6_puts_99 ?_
      refine lv_iload_n X.hx X.hb dX6_puts_100 rfl (lv_at hl 1 rfl) ?_
      refine lv_icmp_ne (tgt := 108) X.hx X.hb dX6_puts_101 (by decide) (fun c19 => ?_) (fun c19 => ?_)
      · have hf := it_n hf c19
        refine lv_iconst (v := 0) X.hx X.hb dX6_puts_108 (by decide) ?_
        exact bX6_puts_109 X  ho ih  _ _ _ _ _  hf _ _ _ hH hS (lv_sub hl [0, 1, 2, 3] rfl)
      · have hf := it_p hf c19
        refine lv_iconst (v := 1) X.hx X.hb dX6_puts_104 (by decide) ?_
        refine lv_goto (tgt := 109) X.hx X.hb dX6_puts_105 (by decide) ?_
        exact bX6_puts_109 X  ho ih  _ _ _ _ _  hf _ _ _ hH hS (lv_sub hl [0, 1, 2, 3] rfl)
set_option maxRecDepth 20000 in
set_option maxHeartbeats 4000000 in
theorem kX6_puts (l : Launch) {G : gG} {σ : Mem} {r : Int32} {σ' : Mem} {o : Nat} {x1 : Int32} {x2 : Int32} (ho : gsh G o = some 6)  (hf : fX6_puts σ o x1 x2 = some (r, σ')) : CM l yX6_puts cX6_puts 6 (some .int) 2 43 G σ [.ref (gad G o 0), .int x1, .int x2] (some (.int r)) σ' := by
  refine CM.of (by decide) (Nat.le_of_ble_eq_true rfl) (fun p e s m below meth c ls X hH hl => ?_)
  have X : gX p s m _ meth c yX6_puts cX6_puts 6 (some .int) RX6 G := X
  have hS : va_S (gAA G) s.heap s.heap [] := va_S.rf
  have hl : lv_has ls 6 [(0, .ref (gad G o 0)), (1, .int x1), (2, .int x2)] := hl
  rw [fX6_puts.eq_1] at hf
  refine lv_aload_n X.hx X.hb dX6_puts_0 rfl (lv_at hl 0 rfl) ?_
  refine lv_iload_n X.hx X.hb dX6_puts_1 rfl (lv_at hl 1 rfl) ?_
  obtain ⟨r20, hr, hf⟩ := bd_e hf
  refine g_callVI (As := [.int x1]) (rest := []) X (kX6_isTraveller l ho hr) (C := RX6) (T := TX6) (N := 39) (ci := 6) rfl ho ⟨cdX6_isTraveller, mlX6_158, imX6_isTraveller, seX6_isTraveller, iniX6⟩ hvX6_isTraveller ⟨Nat.le_of_ble_eq_true rfl, Nat.le_of_ble_eq_true rfl⟩ hH hS hl rfl rfl (Nat.le_of_ble_eq_true rfl) ⟨Nat.le_refl 0, Nat.le_refl 0⟩ dX6_puts_2 (fun H locs hH hS => ?_)
  refine lv_if_eq (tgt := 16) X.hx X.hb dX6_puts_5 (by decide) (fun c21 => ?_) (fun c21 => ?_)
  · have hf := it_p hf c21
    refine lv_iconst (v := -1) X.hx X.hb dX6_puts_16 (by decide) ?_
    have e := so2 hf
    rw [e.2] at hH
    exact g_iret X hH hS rfl e.1 dX6_puts_17
  · have hf := it_n hf c21
    refine lv_aload_n X.hx X.hb dX6_puts_8 rfl (lv_at hl 0 rfl) ?_
    refine lv_iload_n X.hx X.hb dX6_puts_9 rfl (lv_at hl 2 rfl) ?_
    obtain ⟨r22, hr, hf⟩ := bd_e hf
    refine g_callVI (As := [.int x2]) (rest := []) X (kX6_isRow l ho hr) (C := RX6) (T := TX6) (N := 39) (ci := 6) rfl ho ⟨cdX6_isRow, mlX6_178, imX6_isRow, seX6_isRow, iniX6⟩ hvX6_isRow ⟨Nat.le_of_ble_eq_true rfl, Nat.le_of_ble_eq_true rfl⟩ hH hS hl rfl rfl (Nat.le_of_ble_eq_true rfl) ⟨Nat.le_refl 0, Nat.le_refl 0⟩ dX6_puts_10 (fun H locs hH hS => ?_)
    refine lv_if_ne (tgt := 18) X.hx X.hb dX6_puts_13 (by decide) (fun c23 => ?_) (fun c23 => ?_)
    · have hf := it_n hf c23
      refine lv_aload_n X.hx X.hb dX6_puts_18 rfl (lv_at hl 0 rfl) ?_
      refine gfX6_19 X hH ho dX6_puts_19 ?_
      refine lv_iconst (v := 2) X.hx X.hb dX6_puts_22 (by decide) ?_
      refine lv_iload_n X.hx X.hb dX6_puts_23 rfl (lv_at hl 1 rfl) ?_
      refine lv_imul X.hx X.hb dX6_puts_24 ?_
      obtain ⟨hg, hf⟩ := gd_e hf
      refine g_iald X hH ⟨_, ho, rfl⟩ hg dX6_puts_25 ?_
      refine lv_aload_n X.hx X.hb dX6_puts_26 rfl (lv_at hl 0 rfl) ?_
      refine gfX6_26 X hH ho dX6_puts_27 ?_
      refine lv_iconst (v := 0) X.hx X.hb dX6_puts_30 (by decide) ?_
      obtain ⟨hg, hf⟩ := gd_e hf
      refine g_iald X hH ⟨_, ho, rfl⟩ hg dX6_puts_31 ?_
      refine lv_icmp_gt (tgt := 61) X.hx X.hb dX6_puts_32 (by decide) (fun c24 => ?_) (fun c24 => ?_)
      · have hf := it_p hf c24
        refine lv_bipush (v := -2) X.hx X.hb dX6_puts_61 (by decide) ?_
        have e := so2 hf
        rw [e.2] at hH
        exact g_iret X hH hS rfl e.1 dX6_puts_63
      · have hf := it_n hf c24
        refine lv_aload_n X.hx X.hb dX6_puts_35 rfl (lv_at hl 0 rfl) ?_
        refine gfX6_26 X hH ho dX6_puts_36 ?_
        refine lv_iconst (v := 2) X.hx X.hb dX6_puts_39 (by decide) ?_
        refine lv_iload_n X.hx X.hb dX6_puts_40 rfl (lv_at hl 1 rfl) ?_
        refine lv_iadd X.hx X.hb dX6_puts_41 ?_
        obtain ⟨hg, hf⟩ := gd_e hf
        refine g_iald X hH ⟨_, ho, rfl⟩ hg dX6_puts_42 ?_
        refine lv_bipush (v := -9) X.hx X.hb dX6_puts_43 (by decide) ?_
        refine lv_icmp_ne (tgt := 61) X.hx X.hb dX6_puts_45 (by decide) (fun c25 => ?_) (fun c25 => ?_)
        · have hf := it_n hf c25
          refine lv_bipush (v := -2) X.hx X.hb dX6_puts_61 (by decide) ?_
          have e := so2 hf
          rw [e.2] at hH
          exact g_iret X hH hS rfl e.1 dX6_puts_63
        · have hf := it_p hf c25
          refine lv_aload_n X.hx X.hb dX6_puts_48 rfl (lv_at hl 0 rfl) ?_
          refine gfX6_26 X hH ho dX6_puts_49 ?_
          refine lv_bipush (v := 14) X.hx X.hb dX6_puts_52 (by decide) ?_
          refine lv_iload_n X.hx X.hb dX6_puts_54 rfl (lv_at hl 1 rfl) ?_
          refine lv_iadd X.hx X.hb dX6_puts_55 ?_
          obtain ⟨hg, hf⟩ := gd_e hf
          refine g_iald X hH ⟨_, ho, rfl⟩ hg dX6_puts_56 ?_
          refine lv_iconst (v := 1) X.hx X.hb dX6_puts_57 (by decide) ?_
          refine lv_icmp_ne (tgt := 64) X.hx X.hb dX6_puts_58 (by decide) (fun c26 => ?_) (fun c26 => ?_)
          · have hf := it_n hf c26
            refine lv_aload_n X.hx X.hb dX6_puts_64 rfl (lv_at hl 0 rfl) ?_
            obtain ⟨σ27, hr, hf⟩ := bd_e hf
            refine g_callVV (As := []) (rest := []) X (kX6_remembers l ho hr) (C := RX6) (T := TX6) (N := 39) (ci := 6) rfl ho ⟨cdX6_remembers, mlX6_181, imX6_remembers, seX6_remembers, iniX6⟩ hvX6_remembers ⟨Nat.le_of_ble_eq_true rfl, Nat.le_of_ble_eq_true rfl⟩ hH hS hl rfl rfl (Nat.le_of_ble_eq_true rfl) ⟨Nat.le_refl 0, Nat.le_refl 0⟩ dX6_puts_65 (fun H locs hH hS => ?_)
            refine lv_aload_n X.hx X.hb dX6_puts_68 rfl (lv_at hl 0 rfl) ?_
            refine gfX6_26 X hH ho dX6_puts_69 ?_
            refine lv_iconst (v := 2) X.hx X.hb dX6_puts_72 (by decide) ?_
            refine lv_iload_n X.hx X.hb dX6_puts_73 rfl (lv_at hl 1 rfl) ?_
            refine lv_iadd X.hx X.hb dX6_puts_74 ?_
            refine lv_iload_n X.hx X.hb dX6_puts_75 rfl (lv_at hl 2 rfl) ?_
            obtain ⟨hg, hf⟩ := gd_e hf
            refine g_iast X hH hS ⟨_, ho, rfl⟩ hg dX6_puts_76 (fun H locs hH hS => ?_)
            obtain ⟨σ28, he, hf⟩ := stp_e hf
            rw [← he] at hH
            clear he
            refine lv_iconst (v := 0) X.hx X.hb dX6_puts_77 (by decide) ?_
            refine lv_istore_n (lv' := [(3, .int (0 : Int32)), (0, .ref (gad G o 0)), (1, .int x1), (2, .int x2)]) X.hx X.hb dX6_puts_78 rfl hl (by decide) rfl (fun ls hl => ?_)
            refine lv_iconst (v := 0) X.hx X.hb dX6_puts_79 (by decide) ?_
            refine lv_istore (lv' := [(4, .int (0 : Int32)), (3, .int (0 : Int32)), (0, .ref (gad G o 0)), (1, .int x1), (2, .int x2)]) X.hx X.hb dX6_puts_80 hl (by decide) rfl (fun ls hl => ?_)
            exact bX6_puts_82 X  ho  _ _ _ _ _  hf _ _ _ hH hS (lv_sub hl [2, 4, 1, 0] rfl)
          · have hf := it_p hf c26
            refine lv_bipush (v := -2) X.hx X.hb dX6_puts_61 (by decide) ?_
            have e := so2 hf
            rw [e.2] at hH
            exact g_iret X hH hS rfl e.1 dX6_puts_63
    · have hf := it_p hf c23
      refine lv_iconst (v := -1) X.hx X.hb dX6_puts_16 (by decide) ?_
      have e := so2 hf
      rw [e.2] at hH
      exact g_iret X hH hS rfl e.1 dX6_puts_17
set_option maxRecDepth 20000 in
set_option maxHeartbeats 4000000 in
theorem bX6_vinegar_20 {p : Program} {l : Launch} {e : Env} {s : State} {m : MethodId} {args : Array Value} {below : List Frame} {meth : Method} {c : Code} {G : gG} (X : gX p s m args meth c yX6_vinegar cX6_vinegar 7 (some .int) RX6 G) {o : Nat} (ho : gsh G o = some 6)  {σ : Mem} {r : Int32} {k5 : Nat → Nat → Nat → Int32 → Int32 → Int32 → Option Int32} (hk5 : (∀ (a1 : Nat) (b1 : Nat) (n1 : Nat) (x2 : Int32) (x3 : Int32) (x4 : Int32), gvA G a1 b1 4 n1 → k5 a1 b1 n1 x2 x3 x4 = some r → ∀ (H : Heap) (locs : List Loc) (ls : Array Slot), gH G σ H → va_S (gAA G) s.heap H locs → lv_has ls 7 [(0, .ref (gad G o 0)), (1, .ref (gad G a1 (b1 + 1))), (2, .int x2), (3, .int x3), (4, .int x4)] → WB p l e 0 0 s m args below meth c G (some (.int r)) σ H locs (F0 m 5 ls []))) : (∀ (n : Nat) (a1 : Nat) (b1 : Nat) (n1 : Nat) (x2 : Int32) (x3 : Int32) (x4 : Int32) (x5 : Int32) (x6 : Int32), gvA G a1 b1 4 n1 → fX6_vinegar_20 k5 σ o n a1 b1 n1 x2 x3 x4 x5 x6 = some r → ∀ (H : Heap) (locs : List Loc) (ls : Array Slot), gH G σ H → va_S (gAA G) s.heap H locs → lv_has ls 7 [(0, .ref (gad G o 0)), (1, .ref (gad G a1 (b1 + 1))), (2, .int x2), (3, .int x3), (4, .int x4), (5, .int x5), (6, .int x6)] → WB p l e 0 0 s m args below meth c G (some (.int r)) σ H locs (F0 m 20 ls [])) := by
  intro n
  induction n with
  | zero => intro a1 b1 n1 x2 x3 x4 x5 x6 ha1 hf H locs ls hH hS hl; exact nomatch (show (none : Option Int32) = some _ from hf)
  | succ n ih =>
    intro a1 b1 n1 x2 x3 x4 x5 x6 ha1 hf H locs ls hH hS hl
    rw [fX6_vinegar_20.eq_2] at hf
    refine lv_iload X.hx X.hb dX6_vinegar_20 (lv_at hl 6 rfl) ?_
    refine lv_aload_n X.hx X.hb dX6_vinegar_22 rfl (lv_at hl 0 rfl) ?_
    refine gfX6_82 X hH ho dX6_vinegar_23 ?_
    refine lv_icmp_ge (tgt := 56) X.hx X.hb dX6_vinegar_26 (by decide) (fun c5 => ?_) (fun c5 => ?_)
    · have hf := it_p hf c5
      refine lv_iload_n X.hx X.hb dX6_vinegar_56 rfl (lv_at hl 3 rfl) ?_
      refine lv_iload X.hx X.hb dX6_vinegar_57 (lv_at hl 5 rfl) ?_
      refine lv_if_ne (tgt := 66) X.hx X.hb dX6_vinegar_59 (by decide) (fun c6 => ?_) (fun c6 => ?_)
      · have hf := it_n hf c6
        refine lv_iconst (v := 1) X.hx X.hb dX6_vinegar_66 (by decide) ?_
        refine lv_iload X.hx X.hb dX6_vinegar_67 (lv_at hl 5 rfl) ?_
        refine lv_iconst (v := 2) X.hx X.hb dX6_vinegar_69 (by decide) ?_
        refine lv_idiv X.hx X.hb dX6_vinegar_70 (by decide) ?_
        refine lv_iadd X.hx X.hb dX6_vinegar_71 ?_
        refine lv_iadd X.hx X.hb dX6_vinegar_72 ?_
        refine lv_istore_n (lv' := [(3, .int (x3 + ((1 : Int32) + (x5 / (2 : Int32))))), (0, .ref (gad G o 0)), (1, .ref (gad G a1 (b1 + 1))), (2, .int x2), (4, .int x4), (5, .int x5), (6, .int x6)]) X.hx X.hb dX6_vinegar_73 rfl hl (by decide) rfl (fun ls hl => ?_)
        refine lv_iinc (v := x4 + 1) (lv' := [(4, .int (x4 + 1)), (3, .int (x3 + ((1 : Int32) + (x5 / (2 : Int32))))), (0, .ref (gad G o 0)), (1, .ref (gad G a1 (b1 + 1))), (2, .int x2), (5, .int x5), (6, .int x6)]) X.hx X.hb dX6_vinegar_74 hl (k := 4) rfl rfl (by decide) rfl (fun ls hl => ?_)
        refine lv_goto (tgt := 5) X.hx X.hb dX6_vinegar_77 (by decide) ?_
        exact hk5 _ _ _ _ _ _ ha1 hf _ _ _ hH hS (lv_sub hl [2, 3, 4, 1, 0] rfl)
      · have hf := it_p hf c6
        refine lv_iconst (v := 0) X.hx X.hb dX6_vinegar_62 (by decide) ?_
        refine lv_goto (tgt := 72) X.hx X.hb dX6_vinegar_63 (by decide) ?_
        refine lv_iadd X.hx X.hb dX6_vinegar_72 ?_
        refine lv_istore_n (lv' := [(3, .int (x3 + (0 : Int32))), (0, .ref (gad G o 0)), (1, .ref (gad G a1 (b1 + 1))), (2, .int x2), (4, .int x4), (5, .int x5), (6, .int x6)]) X.hx X.hb dX6_vinegar_73 rfl hl (by decide) rfl (fun ls hl => ?_)
        refine lv_iinc (v := x4 + 1) (lv' := [(4, .int (x4 + 1)), (3, .int (x3 + (0 : Int32))), (0, .ref (gad G o 0)), (1, .ref (gad G a1 (b1 + 1))), (2, .int x2), (5, .int x5), (6, .int x6)]) X.hx X.hb dX6_vinegar_74 hl (k := 4) rfl rfl (by decide) rfl (fun ls hl => ?_)
        refine lv_goto (tgt := 5) X.hx X.hb dX6_vinegar_77 (by decide) ?_
        exact hk5 _ _ _ _ _ _ ha1 hf _ _ _ hH hS (lv_sub hl [2, 3, 4, 1, 0] rfl)
    · have hf := it_n hf c5
      refine lv_iload X.hx X.hb dX6_vinegar_29 (lv_at hl 5 rfl) ?_
      refine lv_aload_n X.hx X.hb dX6_vinegar_31 rfl (lv_at hl 1 rfl) ?_
      refine lv_iload_n X.hx X.hb dX6_vinegar_32 rfl (lv_at hl 2 rfl) ?_
      refine lv_iload X.hx X.hb dX6_vinegar_33 (lv_at hl 6 rfl) ?_
      refine lv_iadd X.hx X.hb dX6_vinegar_35 ?_
      obtain ⟨hg, hf⟩ := gd_e hf
      refine g_iald X hH ha1 hg dX6_vinegar_36 ?_
      refine lv_iload X.hx X.hb dX6_vinegar_37 (lv_at hl 4 rfl) ?_
      refine lv_icmp_ne (tgt := 46) X.hx X.hb dX6_vinegar_39 (by decide) (fun c7 => ?_) (fun c7 => ?_)
      · have hf := it_n hf c7
        refine lv_iconst (v := 0) X.hx X.hb dX6_vinegar_46 (by decide) ?_
        refine lv_iadd X.hx X.hb dX6_vinegar_47 ?_
        refine lv_istore (lv' := [(5, .int (x5 + (0 : Int32))), (0, .ref (gad G o 0)), (1, .ref (gad G a1 (b1 + 1))), (2, .int x2), (3, .int x3), (4, .int x4), (6, .int x6)]) X.hx X.hb dX6_vinegar_48 hl (by decide) rfl (fun ls hl => ?_)
        refine lv_iinc (v := x6 + 1) (lv' := [(6, .int (x6 + 1)), (5, .int (x5 + (0 : Int32))), (0, .ref (gad G o 0)), (1, .ref (gad G a1 (b1 + 1))), (2, .int x2), (3, .int x3), (4, .int x4)]) X.hx X.hb dX6_vinegar_50 hl (k := 6) rfl rfl (by decide) rfl (fun ls hl => ?_)
        refine lv_goto (tgt := 20) X.hx X.hb dX6_vinegar_53 (by decide) ?_
        exact ih _ _ _ _ _ _ _ _ ha1 hf _ _ _ hH hS (lv_sub hl [2, 3, 4, 5, 6, 1, 0] rfl)
      · have hf := it_p hf c7
        refine lv_iconst (v := 1) X.hx X.hb dX6_vinegar_42 (by decide) ?_
        refine lv_goto (tgt := 47) X.hx X.hb dX6_vinegar_43 (by decide) ?_
        refine lv_iadd X.hx X.hb dX6_vinegar_47 ?_
        refine lv_istore (lv' := [(5, .int (x5 + (1 : Int32))), (0, .ref (gad G o 0)), (1, .ref (gad G a1 (b1 + 1))), (2, .int x2), (3, .int x3), (4, .int x4), (6, .int x6)]) X.hx X.hb dX6_vinegar_48 hl (by decide) rfl (fun ls hl => ?_)
        refine lv_iinc (v := x6 + 1) (lv' := [(6, .int (x6 + 1)), (5, .int (x5 + (1 : Int32))), (0, .ref (gad G o 0)), (1, .ref (gad G a1 (b1 + 1))), (2, .int x2), (3, .int x3), (4, .int x4)]) X.hx X.hb dX6_vinegar_50 hl (k := 6) rfl rfl (by decide) rfl (fun ls hl => ?_)
        refine lv_goto (tgt := 20) X.hx X.hb dX6_vinegar_53 (by decide) ?_
        exact ih _ _ _ _ _ _ _ _ ha1 hf _ _ _ hH hS (lv_sub hl [2, 3, 4, 5, 6, 1, 0] rfl)
set_option maxRecDepth 20000 in
set_option maxHeartbeats 4000000 in
theorem bX6_vinegar_5 {p : Program} {l : Launch} {e : Env} {s : State} {m : MethodId} {args : Array Value} {below : List Frame} {meth : Method} {c : Code} {G : gG} (X : gX p s m args meth c yX6_vinegar cX6_vinegar 7 (some .int) RX6 G) {o : Nat} (ho : gsh G o = some 6)  {σ : Mem} {r : Int32} : (∀ (n : Nat) (a1 : Nat) (b1 : Nat) (n1 : Nat) (x2 : Int32) (x3 : Int32) (x4 : Int32), gvA G a1 b1 4 n1 → fX6_vinegar_5 σ o n a1 b1 n1 x2 x3 x4 = some r → ∀ (H : Heap) (locs : List Loc) (ls : Array Slot), gH G σ H → va_S (gAA G) s.heap H locs → lv_has ls 7 [(0, .ref (gad G o 0)), (1, .ref (gad G a1 (b1 + 1))), (2, .int x2), (3, .int x3), (4, .int x4)] → WB p l e 0 0 s m args below meth c G (some (.int r)) σ H locs (F0 m 5 ls [])) := by
  intro n
  induction n with
  | zero => intro a1 b1 n1 x2 x3 x4 ha1 hf H locs ls hH hS hl; exact nomatch (show (none : Option Int32) = some _ from hf)
  | succ n ih =>
    intro a1 b1 n1 x2 x3 x4 ha1 hf H locs ls hH hS hl
    rw [fX6_vinegar_5.eq_2] at hf
    refine lv_iload X.hx X.hb dX6_vinegar_5 (lv_at hl 4 rfl) ?_
    refine lv_aload_n X.hx X.hb dX6_vinegar_7 rfl (lv_at hl 0 rfl) ?_
    refine gfX6_13 X hH ho dX6_vinegar_8 ?_
    refine lv_icmp_ge (tgt := 80) X.hx X.hb dX6_vinegar_11 (by decide) (fun c8 => ?_) (fun c8 => ?_)
    · have hf := it_p hf c8
      refine lv_iload_n X.hx X.hb dX6_vinegar_80 rfl (lv_at hl 3 rfl) ?_
      exact g_iret X hH hS rfl (so1 hf) dX6_vinegar_81
    · have hf := it_n hf c8
      refine lv_iconst (v := 0) X.hx X.hb dX6_vinegar_14 (by decide) ?_
      refine lv_istore (lv' := [(5, .int (0 : Int32)), (0, .ref (gad G o 0)), (1, .ref (gad G a1 (b1 + 1))), (2, .int x2), (3, .int x3), (4, .int x4)]) X.hx X.hb dX6_vinegar_15 hl (by decide) rfl (fun ls hl => ?_)
      refine lv_iconst (v := 0) X.hx X.hb dX6_vinegar_17 (by decide) ?_
      refine lv_istore (lv' := [(6, .int (0 : Int32)), (5, .int (0 : Int32)), (0, .ref (gad G o 0)), (1, .ref (gad G a1 (b1 + 1))), (2, .int x2), (3, .int x3), (4, .int x4)]) X.hx X.hb dX6_vinegar_18 hl (by decide) rfl (fun ls hl => ?_)
      exact bX6_vinegar_20 X  ho ih _ _ _ _ _ _ _ _ _ ha1 hf _ _ _ hH hS (lv_sub hl [2, 3, 4, 5, 6, 1, 0] rfl)
set_option maxRecDepth 20000 in
set_option maxHeartbeats 4000000 in
theorem kX6_vinegar (l : Launch) {G : gG} {σ : Mem} {r : Int32} {o : Nat} {a1 b1 n1 : Nat} {x2 : Int32} (ho : gsh G o = some 6) (ha1 : gvA G a1 b1 4 n1) (hf : fX6_vinegar σ o a1 b1 n1 x2 = some r) : CM l yX6_vinegar cX6_vinegar 7 (some .int) 0 0 G σ [.ref (gad G o 0), .ref (gad G a1 (b1 + 1)), .int x2] (some (.int r)) σ := by
  refine CM.of (by decide) (Nat.le_of_ble_eq_true rfl) (fun p e s m below meth c ls X hH hl => ?_)
  have X : gX p s m _ meth c yX6_vinegar cX6_vinegar 7 (some .int) RX6 G := X
  have hS : va_S (gAA G) s.heap s.heap [] := va_S.rf
  have hl : lv_has ls 7 [(0, .ref (gad G o 0)), (1, .ref (gad G a1 (b1 + 1))), (2, .int x2)] := hl
  rw [fX6_vinegar.eq_1] at hf
  refine lv_iconst (v := 0) X.hx X.hb dX6_vinegar_0 (by decide) ?_
  refine lv_istore_n (lv' := [(3, .int (0 : Int32)), (0, .ref (gad G o 0)), (1, .ref (gad G a1 (b1 + 1))), (2, .int x2)]) X.hx X.hb dX6_vinegar_1 rfl hl (by decide) rfl (fun ls hl => ?_)
  refine lv_iconst (v := 0) X.hx X.hb dX6_vinegar_2 (by decide) ?_
  refine lv_istore (lv' := [(4, .int (0 : Int32)), (3, .int (0 : Int32)), (0, .ref (gad G o 0)), (1, .ref (gad G a1 (b1 + 1))), (2, .int x2)]) X.hx X.hb dX6_vinegar_3 hl (by decide) rfl (fun ls hl => ?_)
  exact bX6_vinegar_5 X  ho  _ _ _ _ _ _ _ ha1 hf _ _ _ hH hS (lv_sub hl [2, 3, 4, 1, 0] rfl)
set_option maxRecDepth 20000 in
set_option maxHeartbeats 4000000 in
theorem bX6_day_49 {p : Program} {l : Launch} {e : Env} {s : State} {m : MethodId} {args : Array Value} {below : List Frame} {meth : Method} {c : Code} {G : gG} (X : gX p s m args meth c yX6_day cX6_day 2 (some .int) RX6 G) {o : Nat} (ho : gsh G o = some 6)  {r : Int32} {σ' : Mem} : (∀ (n : Nat) (σ : Mem) (x1 : Int32), fX6_day_49 o n σ x1 = some (r, σ') → ∀ (H : Heap) (locs : List Loc) (ls : Array Slot), gH G σ H → va_S (gAA G) s.heap H locs → lv_has ls 2 [(0, .ref (gad G o 0)), (1, .int x1)] → WB p l e 2 43 s m args below meth c G (some (.int r)) σ' H locs (F0 m 49 ls [])) := by
  intro n
  induction n with
  | zero => intro σ x1 hf H locs ls hH hS hl; exact nomatch (show (none : Option (Int32 × Mem)) = some _ from hf)
  | succ n ih =>
    intro σ x1 hf H locs ls hH hS hl
    rw [fX6_day_49.eq_2] at hf
    refine lv_iload_n X.hx X.hb dX6_day_49 rfl (lv_at hl 1 rfl) ?_
    refine lv_aload_n X.hx X.hb dX6_day_50 rfl (lv_at hl 0 rfl) ?_
    refine gfX6_82 X hH ho dX6_day_51 ?_
    refine lv_icmp_ge (tgt := 93) X.hx X.hb dX6_day_54 (by decide) (fun c11 => ?_) (fun c11 => ?_)
    · have hf := it_p hf c11
      refine lv_aload_n X.hx X.hb dX6_day_93 rfl (lv_at hl 0 rfl) ?_
      obtain ⟨r12, hr, hf⟩ := bd_e hf
      refine g_callVI (As := []) (rest := []) X (kX6_leavers l ho hr) (C := RX6) (T := TX6) (N := 39) (ci := 6) rfl ho ⟨cdX6_leavers, mlX6_168, imX6_leavers, seX6_leavers, iniX6⟩ hvX6_leavers ⟨Nat.le_of_ble_eq_true rfl, Nat.le_of_ble_eq_true rfl⟩ hH hS hl rfl rfl (Nat.le_of_ble_eq_true rfl) ⟨Nat.le_refl 0, Nat.le_refl 0⟩ dX6_day_94 (fun H locs hH hS => ?_)
      have e := so2 hf
      rw [e.2] at hH
      exact g_iret X hH hS rfl e.1 dX6_day_97
    · have hf := it_n hf c11
      refine lv_aload_n X.hx X.hb dX6_day_57 rfl (lv_at hl 0 rfl) ?_
      refine gfX6_26 X hH ho dX6_day_58 ?_
      refine lv_bipush (v := 8) X.hx X.hb dX6_day_61 (by decide) ?_
      refine lv_iload_n X.hx X.hb dX6_day_63 rfl (lv_at hl 1 rfl) ?_
      refine lv_iadd X.hx X.hb dX6_day_64 ?_
      refine lv_dup2_11 X.hx X.hb dX6_day_65 rfl rfl ?_
      obtain ⟨hg, hf⟩ := gd_e hf
      refine g_iald X hH ⟨_, ho, rfl⟩ hg dX6_day_66 ?_
      refine lv_aload_n X.hx X.hb dX6_day_67 rfl (lv_at hl 0 rfl) ?_
      refine gfX6_26 X hH ho dX6_day_68 ?_
      refine lv_iconst (v := 2) X.hx X.hb dX6_day_71 (by decide) ?_
      refine lv_iload_n X.hx X.hb dX6_day_72 rfl (lv_at hl 1 rfl) ?_
      refine lv_iadd X.hx X.hb dX6_day_73 ?_
      obtain ⟨hg, hf⟩ := gd_e hf
      refine g_iald X hH ⟨_, ho, rfl⟩ hg dX6_day_74 ?_
      refine lv_bipush (v := -9) X.hx X.hb dX6_day_75 (by decide) ?_
      refine lv_icmp_ne (tgt := 84) X.hx X.hb dX6_day_77 (by decide) (fun c13 => ?_) (fun c13 => ?_)
      · have hf := it_n hf c13
        refine lv_iconst (v := 1) X.hx X.hb dX6_day_84 (by decide) ?_
        refine lv_iadd X.hx X.hb dX6_day_85 ?_
        obtain ⟨hg, hf⟩ := gd_e hf
        refine g_iast X hH hS ⟨_, ho, rfl⟩ hg dX6_day_86 (fun H locs hH hS => ?_)
        obtain ⟨σ14, he, hf⟩ := stp_e hf
        rw [← he] at hH
        clear he
        refine lv_iinc (v := x1 + 1) (lv' := [(1, .int (x1 + 1)), (0, .ref (gad G o 0))]) X.hx X.hb dX6_day_87 hl (k := 1) rfl rfl (by decide) rfl (fun ls hl => ?_)
        refine lv_goto (tgt := 49) X.hx X.hb dX6_day_90 (by decide) ?_
        exact ih _ _  hf _ _ _ hH hS (lv_sub hl [1, 0] rfl)
      · have hf := it_p hf c13
        refine lv_iconst (v := 0) X.hx X.hb dX6_day_80 (by decide) ?_
        refine lv_goto (tgt := 85) X.hx X.hb dX6_day_81 (by decide) ?_
        refine lv_iadd X.hx X.hb dX6_day_85 ?_
        obtain ⟨hg, hf⟩ := gd_e hf
        refine g_iast X hH hS ⟨_, ho, rfl⟩ hg dX6_day_86 (fun H locs hH hS => ?_)
        obtain ⟨σ15, he, hf⟩ := stp_e hf
        rw [← he] at hH
        clear he
        refine lv_iinc (v := x1 + 1) (lv' := [(1, .int (x1 + 1)), (0, .ref (gad G o 0))]) X.hx X.hb dX6_day_87 hl (k := 1) rfl rfl (by decide) rfl (fun ls hl => ?_)
        refine lv_goto (tgt := 49) X.hx X.hb dX6_day_90 (by decide) ?_
        exact ih _ _  hf _ _ _ hH hS (lv_sub hl [1, 0] rfl)
set_option maxRecDepth 20000 in
set_option maxHeartbeats 4000000 in
theorem kX6_day (l : Launch) {G : gG} {σ : Mem} {r : Int32} {σ' : Mem} {o : Nat} (ho : gsh G o = some 6)  (hf : fX6_day σ o = some (r, σ')) : CM l yX6_day cX6_day 2 (some .int) 2 43 G σ [.ref (gad G o 0)] (some (.int r)) σ' := by
  refine CM.of (by decide) (Nat.le_of_ble_eq_true rfl) (fun p e s m below meth c ls X hH hl => ?_)
  have X : gX p s m _ meth c yX6_day cX6_day 2 (some .int) RX6 G := X
  have hS : va_S (gAA G) s.heap s.heap [] := va_S.rf
  have hl : lv_has ls 2 [(0, .ref (gad G o 0))] := hl
  rw [fX6_day.eq_1] at hf
  refine lv_aload_n X.hx X.hb dX6_day_0 rfl (lv_at hl 0 rfl) ?_
  refine gfX6_26 X hH ho dX6_day_1 ?_
  refine lv_iconst (v := 0) X.hx X.hb dX6_day_4 (by decide) ?_
  obtain ⟨hg, hf⟩ := gd_e hf
  refine g_iald X hH ⟨_, ho, rfl⟩ hg dX6_day_5 ?_
  refine lv_sipush (v := 200) X.hx X.hb dX6_day_6 (by decide) ?_
  refine lv_icmp_ne (tgt := 15) X.hx X.hb dX6_day_9 (by decide) (fun c16 => ?_) (fun c16 => ?_)
  · have hf := it_n hf c16
    refine lv_aload_n X.hx X.hb dX6_day_15 rfl (lv_at hl 0 rfl) ?_
    obtain ⟨σ17, hr, hf⟩ := bd_e hf
    refine g_callVV (As := []) (rest := []) X (kX6_remembers l ho hr) (C := RX6) (T := TX6) (N := 39) (ci := 6) rfl ho ⟨cdX6_remembers, mlX6_181, imX6_remembers, seX6_remembers, iniX6⟩ hvX6_remembers ⟨Nat.le_of_ble_eq_true rfl, Nat.le_of_ble_eq_true rfl⟩ hH hS hl rfl rfl (Nat.le_of_ble_eq_true rfl) ⟨Nat.le_refl 0, Nat.le_refl 0⟩ dX6_day_16 (fun H locs hH hS => ?_)
    refine lv_aload_n X.hx X.hb dX6_day_19 rfl (lv_at hl 0 rfl) ?_
    refine gfX6_26 X hH ho dX6_day_20 ?_
    refine lv_iconst (v := 1) X.hx X.hb dX6_day_23 (by decide) ?_
    refine lv_dup2_11 X.hx X.hb dX6_day_24 rfl rfl ?_
    obtain ⟨hg, hf⟩ := gd_e hf
    refine g_iald X hH ⟨_, ho, rfl⟩ hg dX6_day_25 ?_
    refine lv_aload_n X.hx X.hb dX6_day_26 rfl (lv_at hl 0 rfl) ?_
    refine lv_aload_n X.hx X.hb dX6_day_27 rfl (lv_at hl 0 rfl) ?_
    refine gfX6_26 X hH ho dX6_day_28 ?_
    refine lv_iconst (v := 2) X.hx X.hb dX6_day_31 (by decide) ?_
    obtain ⟨r18, hr, hf⟩ := bd_e hf
    refine g_callVI (As := [.ref (gad G o (7 + 1)), .int (2 : Int32)]) (rest := [.int (mA σ17 o 7 (1 : Int32).toNatClampNeg), .int (1 : Int32), .ref (gad G o (7 + 1))]) X (kX6_vinegar l ho ⟨_, ho, rfl⟩ hr) (C := RX6) (T := TX6) (N := 39) (ci := 6) rfl ho ⟨cdX6_vinegar, mlX6_184, imX6_vinegar, seX6_vinegar, iniX6⟩ hvX6_vinegar ⟨Nat.le_of_ble_eq_true rfl, Nat.le_of_ble_eq_true rfl⟩ hH hS hl rfl rfl (Nat.le_of_ble_eq_true rfl) ⟨Nat.le_refl 0, Nat.le_refl 0⟩ dX6_day_32 (fun H locs hH hS => ?_)
    refine lv_iadd X.hx X.hb dX6_day_35 ?_
    obtain ⟨hg, hf⟩ := gd_e hf
    refine g_iast X hH hS ⟨_, ho, rfl⟩ hg dX6_day_36 (fun H locs hH hS => ?_)
    obtain ⟨σ19, he, hf⟩ := stp_e hf
    rw [← he] at hH
    clear he
    refine lv_aload_n X.hx X.hb dX6_day_37 rfl (lv_at hl 0 rfl) ?_
    refine gfX6_26 X hH ho dX6_day_38 ?_
    refine lv_iconst (v := 0) X.hx X.hb dX6_day_41 (by decide) ?_
    refine lv_dup2_11 X.hx X.hb dX6_day_42 rfl rfl ?_
    obtain ⟨hg, hf⟩ := gd_e hf
    refine g_iald X hH ⟨_, ho, rfl⟩ hg dX6_day_43 ?_
    refine lv_iconst (v := 1) X.hx X.hb dX6_day_44 (by decide) ?_
    refine lv_iadd X.hx X.hb dX6_day_45 ?_
    obtain ⟨hg, hf⟩ := gd_e hf
    refine g_iast X hH hS ⟨_, ho, rfl⟩ hg dX6_day_46 (fun H locs hH hS => ?_)
    obtain ⟨σ20, he, hf⟩ := stp_e hf
    rw [← he] at hH
    clear he
    refine lv_iconst (v := 0) X.hx X.hb dX6_day_47 (by decide) ?_
    refine lv_istore_n (lv' := [(1, .int (0 : Int32)), (0, .ref (gad G o 0))]) X.hx X.hb dX6_day_48 rfl hl (by decide) rfl (fun ls hl => ?_)
    exact bX6_day_49 X  ho  _ _ _  hf _ _ _ hH hS (lv_sub hl [1, 0] rfl)
  · have hf := it_p hf c16
    refine lv_bipush (v := -2) X.hx X.hb dX6_day_12 (by decide) ?_
    have e := so2 hf
    rw [e.2] at hH
    exact g_iret X hH hS rfl e.1 dX6_day_14
set_option maxRecDepth 20000 in
set_option maxHeartbeats 4000000 in
theorem kX6_sails (l : Launch) {G : gG} {σ : Mem} {r : Int32} {σ' : Mem} {o : Nat} {x1 : Int32} (ho : gsh G o = some 6)  (hf : fX6_sails σ o x1 = some (r, σ')) : CM l yX6_sails cX6_sails 2 (some .int) 2 43 G σ [.ref (gad G o 0), .int x1] (some (.int r)) σ' := by
  refine CM.of (by decide) (Nat.le_of_ble_eq_true rfl) (fun p e s m below meth c ls X hH hl => ?_)
  have X : gX p s m _ meth c yX6_sails cX6_sails 2 (some .int) RX6 G := X
  have hS : va_S (gAA G) s.heap s.heap [] := va_S.rf
  have hl : lv_has ls 2 [(0, .ref (gad G o 0)), (1, .int x1)] := hl
  rw [fX6_sails.eq_1] at hf
  refine lv_aload_n X.hx X.hb dX6_sails_0 rfl (lv_at hl 0 rfl) ?_
  refine lv_iload_n X.hx X.hb dX6_sails_1 rfl (lv_at hl 1 rfl) ?_
  obtain ⟨r13, hr, hf⟩ := bd_e hf
  refine g_callVI (As := [.int x1]) (rest := []) X (kX6_isTraveller l ho hr) (C := RX6) (T := TX6) (N := 39) (ci := 6) rfl ho ⟨cdX6_isTraveller, mlX6_158, imX6_isTraveller, seX6_isTraveller, iniX6⟩ hvX6_isTraveller ⟨Nat.le_of_ble_eq_true rfl, Nat.le_of_ble_eq_true rfl⟩ hH hS hl rfl rfl (Nat.le_of_ble_eq_true rfl) ⟨Nat.le_refl 0, Nat.le_refl 0⟩ dX6_sails_2 (fun H locs hH hS => ?_)
  refine lv_if_ne (tgt := 10) X.hx X.hb dX6_sails_5 (by decide) (fun c14 => ?_) (fun c14 => ?_)
  · have hf := it_n hf c14
    refine lv_aload_n X.hx X.hb dX6_sails_10 rfl (lv_at hl 0 rfl) ?_
    refine lv_iload_n X.hx X.hb dX6_sails_11 rfl (lv_at hl 1 rfl) ?_
    obtain ⟨r15, hr, hf⟩ := bd_e hf
    refine g_callVI (As := [.int x1]) (rest := []) X (kX6_mayLeave l ho hr) (C := RX6) (T := TX6) (N := 39) (ci := 6) rfl ho ⟨cdX6_mayLeave, mlX6_165, imX6_mayLeave, seX6_mayLeave, iniX6⟩ hvX6_mayLeave ⟨Nat.le_of_ble_eq_true rfl, Nat.le_of_ble_eq_true rfl⟩ hH hS hl rfl rfl (Nat.le_of_ble_eq_true rfl) ⟨Nat.le_refl 0, Nat.le_refl 0⟩ dX6_sails_12 (fun H locs hH hS => ?_)
    refine lv_if_eq (tgt := 31) X.hx X.hb dX6_sails_15 (by decide) (fun c16 => ?_) (fun c16 => ?_)
    · have hf := it_p hf c16
      refine lv_bipush (v := -2) X.hx X.hb dX6_sails_31 (by decide) ?_
      have e := so2 hf
      rw [e.2] at hH
      exact g_iret X hH hS rfl e.1 dX6_sails_33
    · have hf := it_n hf c16
      refine lv_aload_n X.hx X.hb dX6_sails_18 rfl (lv_at hl 0 rfl) ?_
      refine lv_aload_n X.hx X.hb dX6_sails_19 rfl (lv_at hl 0 rfl) ?_
      refine gfX6_26 X hH ho dX6_sails_20 ?_
      refine lv_iconst (v := 0) X.hx X.hb dX6_sails_23 (by decide) ?_
      obtain ⟨hg, hf⟩ := gd_e hf
      refine g_iald X hH ⟨_, ho, rfl⟩ hg dX6_sails_24 ?_
      obtain ⟨r17, hr, hf⟩ := bd_e hf
      refine g_callVI (As := [.int (mA σ o 7 (0 : Int32).toNatClampNeg)]) (rest := []) X (kX6_sailsOn l ho hr) (C := RX6) (T := TX6) (N := 39) (ci := 6) rfl ho ⟨cdX6_sailsOn, mlX6_175, imX6_sailsOn, seX6_sailsOn, iniX6⟩ hvX6_sailsOn ⟨Nat.le_of_ble_eq_true rfl, Nat.le_of_ble_eq_true rfl⟩ hH hS hl rfl rfl (Nat.le_of_ble_eq_true rfl) ⟨Nat.le_refl 0, Nat.le_refl 0⟩ dX6_sails_25 (fun H locs hH hS => ?_)
      refine lv_if_ne (tgt := 34) X.hx X.hb dX6_sails_28 (by decide) (fun c18 => ?_) (fun c18 => ?_)
      · have hf := it_n hf c18
        refine lv_aload_n X.hx X.hb dX6_sails_34 rfl (lv_at hl 0 rfl) ?_
        obtain ⟨σ19, hr, hf⟩ := bd_e hf
        refine g_callVV (As := []) (rest := []) X (kX6_remembers l ho hr) (C := RX6) (T := TX6) (N := 39) (ci := 6) rfl ho ⟨cdX6_remembers, mlX6_181, imX6_remembers, seX6_remembers, iniX6⟩ hvX6_remembers ⟨Nat.le_of_ble_eq_true rfl, Nat.le_of_ble_eq_true rfl⟩ hH hS hl rfl rfl (Nat.le_of_ble_eq_true rfl) ⟨Nat.le_refl 0, Nat.le_refl 0⟩ dX6_sails_35 (fun H locs hH hS => ?_)
        refine lv_aload_n X.hx X.hb dX6_sails_38 rfl (lv_at hl 0 rfl) ?_
        refine gfX6_26 X hH ho dX6_sails_39 ?_
        refine lv_iconst (v := 2) X.hx X.hb dX6_sails_42 (by decide) ?_
        refine lv_iload_n X.hx X.hb dX6_sails_43 rfl (lv_at hl 1 rfl) ?_
        refine lv_iadd X.hx X.hb dX6_sails_44 ?_
        refine lv_bipush (v := -9) X.hx X.hb dX6_sails_45 (by decide) ?_
        obtain ⟨hg, hf⟩ := gd_e hf
        refine g_iast X hH hS ⟨_, ho, rfl⟩ hg dX6_sails_47 (fun H locs hH hS => ?_)
        obtain ⟨σ20, he, hf⟩ := stp_e hf
        rw [← he] at hH
        clear he
        refine lv_aload_n X.hx X.hb dX6_sails_48 rfl (lv_at hl 0 rfl) ?_
        refine gfX6_26 X hH ho dX6_sails_49 ?_
        refine lv_bipush (v := 8) X.hx X.hb dX6_sails_52 (by decide) ?_
        refine lv_iload_n X.hx X.hb dX6_sails_54 rfl (lv_at hl 1 rfl) ?_
        refine lv_iadd X.hx X.hb dX6_sails_55 ?_
        refine lv_iconst (v := 0) X.hx X.hb dX6_sails_56 (by decide) ?_
        obtain ⟨hg, hf⟩ := gd_e hf
        refine g_iast X hH hS ⟨_, ho, rfl⟩ hg dX6_sails_57 (fun H locs hH hS => ?_)
        obtain ⟨σ21, he, hf⟩ := stp_e hf
        rw [← he] at hH
        clear he
        refine lv_aload_n X.hx X.hb dX6_sails_58 rfl (lv_at hl 0 rfl) ?_
        refine gfX6_26 X hH ho dX6_sails_59 ?_
        refine lv_bipush (v := 14) X.hx X.hb dX6_sails_62 (by decide) ?_
        refine lv_iload_n X.hx X.hb dX6_sails_64 rfl (lv_at hl 1 rfl) ?_
        refine lv_iadd X.hx X.hb dX6_sails_65 ?_
        refine lv_iconst (v := 1) X.hx X.hb dX6_sails_66 (by decide) ?_
        obtain ⟨hg, hf⟩ := gd_e hf
        refine g_iast X hH hS ⟨_, ho, rfl⟩ hg dX6_sails_67 (fun H locs hH hS => ?_)
        obtain ⟨σ22, he, hf⟩ := stp_e hf
        rw [← he] at hH
        clear he
        refine lv_aload_n X.hx X.hb dX6_sails_68 rfl (lv_at hl 0 rfl) ?_
        obtain ⟨r23, hr, hf⟩ := bd_e hf
        refine g_callVI (As := []) (rest := []) X (kX6_goneSet l ho hr) (C := RX6) (T := TX6) (N := 39) (ci := 6) rfl ho ⟨cdX6_goneSet, mlX6_172, imX6_goneSet, seX6_goneSet, iniX6⟩ hvX6_goneSet ⟨Nat.le_of_ble_eq_true rfl, Nat.le_of_ble_eq_true rfl⟩ hH hS hl rfl rfl (Nat.le_of_ble_eq_true rfl) ⟨Nat.le_refl 0, Nat.le_refl 0⟩ dX6_sails_69 (fun H locs hH hS => ?_)
        obtain ⟨r24, hr, hf⟩ := bd_e hf
        refine g_callSI (As := [.int r23]) (rest := []) X (kX6_bits l  hr) ⟨cdX6_bits, mlX6_188, stX6_bits, iniX6⟩ hsX6_bits ⟨Nat.le_of_ble_eq_true rfl, Nat.le_of_ble_eq_true rfl⟩ hH hS hl rfl rfl (Nat.le_of_ble_eq_true rfl) ⟨Nat.le_refl 0, Nat.le_refl 0⟩ dX6_sails_72 (fun H locs hH hS => ?_)
        have e := so2 hf
        rw [e.2] at hH
        exact g_iret X hH hS rfl e.1 dX6_sails_75
      · have hf := it_p hf c18
        refine lv_bipush (v := -2) X.hx X.hb dX6_sails_31 (by decide) ?_
        have e := so2 hf
        rw [e.2] at hH
        exact g_iret X hH hS rfl e.1 dX6_sails_33
  · have hf := it_p hf c14
    refine lv_iconst (v := -1) X.hx X.hb dX6_sails_8 (by decide) ?_
    have e := so2 hf
    rw [e.2] at hH
    exact g_iret X hH hS rfl e.1 dX6_sails_9
set_option maxRecDepth 20000 in
set_option maxHeartbeats 4000000 in
theorem bX6_undo_22 {p : Program} {l : Launch} {e : Env} {s : State} {m : MethodId} {args : Array Value} {below : List Frame} {meth : Method} {c : Code} {G : gG} (X : gX p s m args meth c yX6_undo cX6_undo 2 (some .int) RX6 G) {o : Nat} (ho : gsh G o = some 6)  {r : Int32} {σ' : Mem} : (∀ (n : Nat) (σ : Mem) (x1 : Int32), fX6_undo_22 o n σ x1 = some (r, σ') → ∀ (H : Heap) (locs : List Loc) (ls : Array Slot), gH G σ H → va_S (gAA G) s.heap H locs → lv_has ls 2 [(0, .ref (gad G o 0)), (1, .int x1)] → WB p l e 0 0 s m args below meth c G (some (.int r)) σ' H locs (F0 m 22 ls [])) := by
  intro n
  induction n with
  | zero => intro σ x1 hf H locs ls hH hS hl; exact nomatch (show (none : Option (Int32 × Mem)) = some _ from hf)
  | succ n ih =>
    intro σ x1 hf H locs ls hH hS hl
    rw [fX6_undo_22.eq_2] at hf
    refine lv_iload_n X.hx X.hb dX6_undo_22 rfl (lv_at hl 1 rfl) ?_
    refine lv_bipush (v := 26) X.hx X.hb dX6_undo_23 (by decide) ?_
    refine lv_icmp_ge (tgt := 54) X.hx X.hb dX6_undo_25 (by decide) (fun c5 => ?_) (fun c5 => ?_)
    · have hf := it_p hf c5
      refine lv_aload_n X.hx X.hb dX6_undo_54 rfl (lv_at hl 0 rfl) ?_
      refine gfX6_152 X hH ho dX6_undo_55 ?_
      have e := so2 hf
      rw [e.2] at hH
      exact g_iret X hH hS rfl e.1 dX6_undo_58
    · have hf := it_n hf c5
      refine lv_aload_n X.hx X.hb dX6_undo_28 rfl (lv_at hl 0 rfl) ?_
      refine gfX6_26 X hH ho dX6_undo_29 ?_
      refine lv_iload_n X.hx X.hb dX6_undo_32 rfl (lv_at hl 1 rfl) ?_
      refine lv_aload_n X.hx X.hb dX6_undo_33 rfl (lv_at hl 0 rfl) ?_
      refine gfX6_29 X hH ho dX6_undo_34 ?_
      refine lv_bipush (v := 26) X.hx X.hb dX6_undo_37 (by decide) ?_
      refine lv_aload_n X.hx X.hb dX6_undo_39 rfl (lv_at hl 0 rfl) ?_
      refine gfX6_152 X hH ho dX6_undo_40 ?_
      refine lv_imul X.hx X.hb dX6_undo_43 ?_
      refine lv_iload_n X.hx X.hb dX6_undo_44 rfl (lv_at hl 1 rfl) ?_
      refine lv_iadd X.hx X.hb dX6_undo_45 ?_
      obtain ⟨hg, hf⟩ := gd_e hf
      refine g_iald X hH ⟨_, ho, rfl⟩ hg dX6_undo_46 ?_
      obtain ⟨hg, hf⟩ := gd_e hf
      refine g_iast X hH hS ⟨_, ho, rfl⟩ hg dX6_undo_47 (fun H locs hH hS => ?_)
      obtain ⟨σ6, he, hf⟩ := stp_e hf
      rw [← he] at hH
      clear he
      refine lv_iinc (v := x1 + 1) (lv' := [(1, .int (x1 + 1)), (0, .ref (gad G o 0))]) X.hx X.hb dX6_undo_48 hl (k := 1) rfl rfl (by decide) rfl (fun ls hl => ?_)
      refine lv_goto (tgt := 22) X.hx X.hb dX6_undo_51 (by decide) ?_
      exact ih _ _  hf _ _ _ hH hS (lv_sub hl [1, 0] rfl)
set_option maxRecDepth 20000 in
set_option maxHeartbeats 4000000 in
theorem kX6_undo (l : Launch) {G : gG} {σ : Mem} {r : Int32} {σ' : Mem} {o : Nat} (ho : gsh G o = some 6)  (hf : fX6_undo σ o = some (r, σ')) : CM l yX6_undo cX6_undo 2 (some .int) 0 0 G σ [.ref (gad G o 0)] (some (.int r)) σ' := by
  refine CM.of (by decide) (Nat.le_of_ble_eq_true rfl) (fun p e s m below meth c ls X hH hl => ?_)
  have X : gX p s m _ meth c yX6_undo cX6_undo 2 (some .int) RX6 G := X
  have hS : va_S (gAA G) s.heap s.heap [] := va_S.rf
  have hl : lv_has ls 2 [(0, .ref (gad G o 0))] := hl
  rw [fX6_undo.eq_1] at hf
  refine lv_aload_n X.hx X.hb dX6_undo_0 rfl (lv_at hl 0 rfl) ?_
  refine gfX6_152 X hH ho dX6_undo_1 ?_
  refine lv_if_ne (tgt := 10) X.hx X.hb dX6_undo_4 (by decide) (fun c7 => ?_) (fun c7 => ?_)
  · have hf := it_n hf c7
    refine lv_aload_n X.hx X.hb dX6_undo_10 rfl (lv_at hl 0 rfl) ?_
    refine lv_dup X.hx X.hb dX6_undo_11 rfl ?_
    refine gfX6_152 X hH ho dX6_undo_12 ?_
    refine lv_iconst (v := 1) X.hx X.hb dX6_undo_15 (by decide) ?_
    refine lv_isub X.hx X.hb dX6_undo_16 ?_
    refine pfX6_152 X hH hS ho  dX6_undo_17 (fun H locs hH hS => ?_)
    obtain ⟨σ8, he, hf⟩ := stp_e hf
    rw [← he] at hH
    clear he
    refine lv_iconst (v := 0) X.hx X.hb dX6_undo_20 (by decide) ?_
    refine lv_istore_n (lv' := [(1, .int (0 : Int32)), (0, .ref (gad G o 0))]) X.hx X.hb dX6_undo_21 rfl hl (by decide) rfl (fun ls hl => ?_)
    exact bX6_undo_22 X  ho  _ _ _  hf _ _ _ hH hS (lv_sub hl [1, 0] rfl)
  · have hf := it_p hf c7
    refine lv_bipush (v := -2) X.hx X.hb dX6_undo_7 (by decide) ?_
    have e := so2 hf
    rw [e.2] at hH
    exact g_iret X hH hS rfl e.1 dX6_undo_9
set_option maxRecDepth 20000 in
set_option maxHeartbeats 4000000 in
theorem bX6_comes_14 {p : Program} {l : Launch} {e : Env} {s : State} {m : MethodId} {args : Array Value} {below : List Frame} {meth : Method} {c : Code} {G : gG} (X : gX p s m args meth c yX6_comes cX6_comes 3 none RX6 G) {o : Nat} (ho : gsh G o = some 6)  {σ' : Mem} : (∀ (n : Nat) (σ : Mem) (x1 : Int32) (x2 : Int32), fX6_comes_14 o n σ x1 x2 = some σ' → ∀ (H : Heap) (locs : List Loc) (ls : Array Slot), gH G σ H → va_S (gAA G) s.heap H locs → lv_has ls 3 [(0, .ref (gad G o 0)), (1, .int x1), (2, .int x2)] → WB p l e 0 0 s m args below meth c G none σ' H locs (F0 m 14 ls [])) := by
  intro n
  induction n with
  | zero => intro σ x1 x2 hf H locs ls hH hS hl; exact nomatch (show (none : Option Mem) = some _ from hf)
  | succ n ih =>
    intro σ x1 x2 hf H locs ls hH hS hl
    rw [fX6_comes_14.eq_2] at hf
    refine lv_iload_n X.hx X.hb dX6_comes_14 rfl (lv_at hl 2 rfl) ?_
    refine lv_aload_n X.hx X.hb dX6_comes_15 rfl (lv_at hl 0 rfl) ?_
    refine gfX6_82 X hH ho dX6_comes_16 ?_
    refine lv_icmp_ge (tgt := 59) X.hx X.hb dX6_comes_19 (by decide) (fun c6 => ?_) (fun c6 => ?_)
    · have hf := it_p hf c6
      have e := so1 hf
      rw [e] at hH
      exact g_vret X hH hS rfl dX6_comes_59
    · have hf := it_n hf c6
      refine lv_aload_n X.hx X.hb dX6_comes_22 rfl (lv_at hl 0 rfl) ?_
      refine gfX6_63 X hH ho dX6_comes_23 ?_
      refine lv_iload_n X.hx X.hb dX6_comes_26 rfl (lv_at hl 2 rfl) ?_
      refine lv_aload_n X.hx X.hb dX6_comes_27 rfl (lv_at hl 0 rfl) ?_
      refine gfX6_60 X hH ho dX6_comes_28 ?_
      refine lv_iload_n X.hx X.hb dX6_comes_31 rfl (lv_at hl 2 rfl) ?_
      obtain ⟨hg, hf⟩ := gd_e hf
      refine g_iald X hH ⟨_, ho, rfl⟩ hg dX6_comes_32 ?_
      refine lv_aload_n X.hx X.hb dX6_comes_33 rfl (lv_at hl 0 rfl) ?_
      refine gfX6_57 X hH ho dX6_comes_34 ?_
      refine lv_iload_n X.hx X.hb dX6_comes_37 rfl (lv_at hl 1 rfl) ?_
      obtain ⟨hg, hf⟩ := gd_e hf
      refine g_iald X hH ⟨_, ho, rfl⟩ hg dX6_comes_38 ?_
      refine lv_icmp_ne (tgt := 46) X.hx X.hb dX6_comes_39 (by decide) (fun c7 => ?_) (fun c7 => ?_)
      · have hf := it_n hf c7
        refine lv_aload_n X.hx X.hb dX6_comes_46 rfl (lv_at hl 0 rfl) ?_
        refine gfX6_63 X hH ho dX6_comes_47 ?_
        refine lv_iload_n X.hx X.hb dX6_comes_50 rfl (lv_at hl 2 rfl) ?_
        obtain ⟨hg, hf⟩ := gd_e hf
        refine g_iald X hH ⟨_, ho, rfl⟩ hg dX6_comes_51 ?_
        obtain ⟨hg, hf⟩ := gd_e hf
        refine g_iast X hH hS ⟨_, ho, rfl⟩ hg dX6_comes_52 (fun H locs hH hS => ?_)
        obtain ⟨σ8, he, hf⟩ := stp_e hf
        rw [← he] at hH
        clear he
        refine lv_iinc (v := x2 + 1) (lv' := [(2, .int (x2 + 1)), (0, .ref (gad G o 0)), (1, .int x1)]) X.hx X.hb dX6_comes_53 hl (k := 2) rfl rfl (by decide) rfl (fun ls hl => ?_)
        refine lv_goto (tgt := 14) X.hx X.hb dX6_comes_56 (by decide) ?_
        exact ih _ _ _  hf _ _ _ hH hS (lv_sub hl [1, 2, 0] rfl)
      · have hf := it_p hf c7
        refine lv_iconst (v := 0) X.hx X.hb dX6_comes_42 (by decide) ?_
        refine lv_goto (tgt := 52) X.hx X.hb dX6_comes_43 (by decide) ?_
        obtain ⟨hg, hf⟩ := gd_e hf
        refine g_iast X hH hS ⟨_, ho, rfl⟩ hg dX6_comes_52 (fun H locs hH hS => ?_)
        obtain ⟨σ9, he, hf⟩ := stp_e hf
        rw [← he] at hH
        clear he
        refine lv_iinc (v := x2 + 1) (lv' := [(2, .int (x2 + 1)), (0, .ref (gad G o 0)), (1, .int x1)]) X.hx X.hb dX6_comes_53 hl (k := 2) rfl rfl (by decide) rfl (fun ls hl => ?_)
        refine lv_goto (tgt := 14) X.hx X.hb dX6_comes_56 (by decide) ?_
        exact ih _ _ _  hf _ _ _ hH hS (lv_sub hl [1, 2, 0] rfl)
set_option maxRecDepth 20000 in
set_option maxHeartbeats 4000000 in
theorem kX6_comes (l : Launch) {G : gG} {σ : Mem} {σ' : Mem} {o : Nat} {x1 : Int32} (ho : gsh G o = some 6)  (hf : fX6_comes σ o x1 = some σ') : CM l yX6_comes cX6_comes 3 none 0 0 G σ [.ref (gad G o 0), .int x1] none σ' := by
  refine CM.of (by decide) (Nat.le_of_ble_eq_true rfl) (fun p e s m below meth c ls X hH hl => ?_)
  have X : gX p s m _ meth c yX6_comes cX6_comes 3 none RX6 G := X
  have hS : va_S (gAA G) s.heap s.heap [] := va_S.rf
  have hl : lv_has ls 3 [(0, .ref (gad G o 0)), (1, .int x1)] := hl
  rw [fX6_comes.eq_1] at hf
  refine lv_aload_n X.hx X.hb dX6_comes_0 rfl (lv_at hl 0 rfl) ?_
  refine gfX6_60 X hH ho dX6_comes_1 ?_
  refine lv_iload_n X.hx X.hb dX6_comes_4 rfl (lv_at hl 1 rfl) ?_
  refine lv_aload_n X.hx X.hb dX6_comes_5 rfl (lv_at hl 0 rfl) ?_
  refine gfX6_57 X hH ho dX6_comes_6 ?_
  refine lv_iload_n X.hx X.hb dX6_comes_9 rfl (lv_at hl 1 rfl) ?_
  obtain ⟨hg, hf⟩ := gd_e hf
  refine g_iald X hH ⟨_, ho, rfl⟩ hg dX6_comes_10 ?_
  obtain ⟨hg, hf⟩ := gd_e hf
  refine g_iast X hH hS ⟨_, ho, rfl⟩ hg dX6_comes_11 (fun H locs hH hS => ?_)
  obtain ⟨σ10, he, hf⟩ := stp_e hf
  rw [← he] at hH
  clear he
  refine lv_iconst (v := 0) X.hx X.hb dX6_comes_12 (by decide) ?_
  refine lv_istore_n (lv' := [(2, .int (0 : Int32)), (0, .ref (gad G o 0)), (1, .int x1)]) X.hx X.hb dX6_comes_13 rfl hl (by decide) rfl (fun ls hl => ?_)
  exact bX6_comes_14 X  ho  _ _ _ _  hf _ _ _ hH hS (lv_sub hl [1, 2, 0] rfl)
set_option maxRecDepth 20000 in
set_option maxHeartbeats 4000000 in
theorem bX6_goes_156 {p : Program} {l : Launch} {e : Env} {s : State} {m : MethodId} {args : Array Value} {below : List Frame} {meth : Method} {c : Code} {G : gG} (X : gX p s m args meth c yX6_goes cX6_goes 5 (some .int) RX6 G) {o : Nat} (ho : gsh G o = some 6)  {r : Int32} {σ' : Mem} {k46 : Mem → Int32 → Int32 → Int32 → Option (Int32 × Mem)} (hk46 : (∀ (σ : Mem) (x1 : Int32) (x2 : Int32) (x3 : Int32), k46 σ x1 x2 x3 = some (r, σ') → ∀ (H : Heap) (locs : List Loc) (ls : Array Slot), gH G σ H → va_S (gAA G) s.heap H locs → lv_has ls 5 [(0, .ref (gad G o 0)), (1, .int x1), (2, .int x2), (3, .int x3)] → WB p l e 1 26 s m args below meth c G (some (.int r)) σ' H locs (F0 m 46 ls []))) : (∀ (n : Nat) (σ : Mem) (x1 : Int32) (x2 : Int32) (x3 : Int32) (x4 : Int32), fX6_goes_156 k46 o n σ x1 x2 x3 x4 = some (r, σ') → ∀ (H : Heap) (locs : List Loc) (ls : Array Slot), gH G σ H → va_S (gAA G) s.heap H locs → lv_has ls 5 [(0, .ref (gad G o 0)), (1, .int x1), (2, .int x2), (3, .int x3), (4, .int x4)] → WB p l e 1 26 s m args below meth c G (some (.int r)) σ' H locs (F0 m 156 ls [])) := by
  intro n
  induction n with
  | zero => intro σ x1 x2 x3 x4 hf H locs ls hH hS hl; exact nomatch (show (none : Option (Int32 × Mem)) = some _ from hf)
  | succ n ih =>
    intro σ x1 x2 x3 x4 hf H locs ls hH hS hl
    rw [fX6_goes_156.eq_2] at hf
    refine lv_iload X.hx X.hb dX6_goes_156 (lv_at hl 4 rfl) ?_
    refine lv_aload_n X.hx X.hb dX6_goes_158 rfl (lv_at hl 0 rfl) ?_
    refine gfX6_82 X hH ho dX6_goes_159 ?_
    refine lv_icmp_ge (tgt := 190) X.hx X.hb dX6_goes_162 (by decide) (fun c21 => ?_) (fun c21 => ?_)
    · have hf := it_p hf c21
      refine lv_iload_n X.hx X.hb dX6_goes_190 rfl (lv_at hl 2 rfl) ?_
      refine lv_iload_n X.hx X.hb dX6_goes_191 rfl (lv_at hl 1 rfl) ?_
      refine lv_if_le (tgt := 207) X.hx X.hb dX6_goes_192 (by decide) (fun c22 => ?_) (fun c22 => ?_)
      · have hf := it_p hf c22
        refine lv_iconst (v := 0) X.hx X.hb dX6_goes_207 (by decide) ?_
        refine lv_iadd X.hx X.hb dX6_goes_208 ?_
        refine lv_istore_n (lv' := [(2, .int (x2 + (0 : Int32))), (0, .ref (gad G o 0)), (1, .int x1), (3, .int x3), (4, .int x4)]) X.hx X.hb dX6_goes_209 rfl hl (by decide) rfl (fun ls hl => ?_)
        refine lv_iinc (v := x3 + 1) (lv' := [(3, .int (x3 + 1)), (2, .int (x2 + (0 : Int32))), (0, .ref (gad G o 0)), (1, .int x1), (4, .int x4)]) X.hx X.hb dX6_goes_210 hl (k := 3) rfl rfl (by decide) rfl (fun ls hl => ?_)
        refine lv_goto (tgt := 46) X.hx X.hb dX6_goes_213 (by decide) ?_
        exact hk46 _ _ _ _  hf _ _ _ hH hS (lv_sub hl [2, 3, 1, 0] rfl)
      · have hf := it_n hf c22
        refine lv_aload_n X.hx X.hb dX6_goes_195 rfl (lv_at hl 0 rfl) ?_
        refine lv_aload_n X.hx X.hb dX6_goes_196 rfl (lv_at hl 0 rfl) ?_
        refine gfX6_60 X hH ho dX6_goes_197 ?_
        refine lv_iconst (v := 0) X.hx X.hb dX6_goes_200 (by decide) ?_
        obtain ⟨r23, hr, hf⟩ := bd_e hf
        refine g_callVI (As := [.ref (gad G o (31 + 1)), .int (0 : Int32)]) (rest := [.int x2]) X (kX6_vinegar l ho ⟨_, ho, rfl⟩ hr) (C := RX6) (T := TX6) (N := 39) (ci := 6) rfl ho ⟨cdX6_vinegar, mlX6_184, imX6_vinegar, seX6_vinegar, iniX6⟩ hvX6_vinegar ⟨Nat.le_of_ble_eq_true rfl, Nat.le_of_ble_eq_true rfl⟩ hH hS hl rfl rfl (Nat.le_of_ble_eq_true rfl) ⟨Nat.le_refl 0, Nat.le_refl 0⟩ dX6_goes_201 (fun H locs hH hS => ?_)
        refine lv_goto (tgt := 208) X.hx X.hb dX6_goes_204 (by decide) ?_
        refine lv_iadd X.hx X.hb dX6_goes_208 ?_
        refine lv_istore_n (lv' := [(2, .int (x2 + r23)), (0, .ref (gad G o 0)), (1, .int x1), (3, .int x3), (4, .int x4)]) X.hx X.hb dX6_goes_209 rfl hl (by decide) rfl (fun ls hl => ?_)
        refine lv_iinc (v := x3 + 1) (lv' := [(3, .int (x3 + 1)), (2, .int (x2 + r23)), (0, .ref (gad G o 0)), (1, .int x1), (4, .int x4)]) X.hx X.hb dX6_goes_210 hl (k := 3) rfl rfl (by decide) rfl (fun ls hl => ?_)
        refine lv_goto (tgt := 46) X.hx X.hb dX6_goes_213 (by decide) ?_
        exact hk46 _ _ _ _  hf _ _ _ hH hS (lv_sub hl [2, 3, 1, 0] rfl)
    · have hf := it_n hf c21
      refine lv_aload_n X.hx X.hb dX6_goes_165 rfl (lv_at hl 0 rfl) ?_
      refine gfX6_19 X hH ho dX6_goes_166 ?_
      refine lv_iconst (v := 2) X.hx X.hb dX6_goes_169 (by decide) ?_
      refine lv_iload X.hx X.hb dX6_goes_170 (lv_at hl 4 rfl) ?_
      refine lv_imul X.hx X.hb dX6_goes_172 ?_
      obtain ⟨hg, hf⟩ := gd_e hf
      refine g_iald X hH ⟨_, ho, rfl⟩ hg dX6_goes_173 ?_
      refine lv_iload_n X.hx X.hb dX6_goes_174 rfl (lv_at hl 3 rfl) ?_
      refine lv_icmp_ne (tgt := 184) X.hx X.hb dX6_goes_175 (by decide) (fun c24 => ?_) (fun c24 => ?_)
      · have hf := it_n hf c24
        refine lv_iinc (v := x4 + 1) (lv' := [(4, .int (x4 + 1)), (0, .ref (gad G o 0)), (1, .int x1), (2, .int x2), (3, .int x3)]) X.hx X.hb dX6_goes_184 hl (k := 4) rfl rfl (by decide) rfl (fun ls hl => ?_)
        refine lv_goto (tgt := 156) X.hx X.hb dX6_goes_187 (by decide) ?_
        exact ih _ _ _ _ _  hf _ _ _ hH hS (lv_sub hl [1, 2, 3, 4, 0] rfl)
      · have hf := it_p hf c24
        refine lv_aload_n X.hx X.hb dX6_goes_178 rfl (lv_at hl 0 rfl) ?_
        refine lv_iload X.hx X.hb dX6_goes_179 (lv_at hl 4 rfl) ?_
        obtain ⟨σ25, hr, hf⟩ := bd_e hf
        refine g_callVV (As := [.int x4]) (rest := []) X (kX6_comes l ho hr) (C := RX6) (T := TX6) (N := 39) (ci := 6) rfl ho ⟨cdX6_comes, mlX6_191, imX6_comes, seX6_comes, iniX6⟩ hvX6_comes ⟨Nat.le_of_ble_eq_true rfl, Nat.le_of_ble_eq_true rfl⟩ hH hS hl rfl rfl (Nat.le_of_ble_eq_true rfl) ⟨Nat.le_refl 0, Nat.le_refl 0⟩ dX6_goes_181 (fun H locs hH hS => ?_)
        refine lv_iinc (v := x4 + 1) (lv' := [(4, .int (x4 + 1)), (0, .ref (gad G o 0)), (1, .int x1), (2, .int x2), (3, .int x3)]) X.hx X.hb dX6_goes_184 hl (k := 4) rfl rfl (by decide) rfl (fun ls hl => ?_)
        refine lv_goto (tgt := 156) X.hx X.hb dX6_goes_187 (by decide) ?_
        exact ih _ _ _ _ _  hf _ _ _ hH hS (lv_sub hl [1, 2, 3, 4, 0] rfl)
set_option maxRecDepth 20000 in
set_option maxHeartbeats 4000000 in
theorem bX6_goes_91 {p : Program} {l : Launch} {e : Env} {s : State} {m : MethodId} {args : Array Value} {below : List Frame} {meth : Method} {c : Code} {G : gG} (X : gX p s m args meth c yX6_goes cX6_goes 5 (some .int) RX6 G) {o : Nat} (ho : gsh G o = some 6)  {r : Int32} {σ' : Mem} {k46 : Mem → Int32 → Int32 → Int32 → Option (Int32 × Mem)} (hk46 : (∀ (σ : Mem) (x1 : Int32) (x2 : Int32) (x3 : Int32), k46 σ x1 x2 x3 = some (r, σ') → ∀ (H : Heap) (locs : List Loc) (ls : Array Slot), gH G σ H → va_S (gAA G) s.heap H locs → lv_has ls 5 [(0, .ref (gad G o 0)), (1, .int x1), (2, .int x2), (3, .int x3)] → WB p l e 1 26 s m args below meth c G (some (.int r)) σ' H locs (F0 m 46 ls []))) {k53 : Mem → Int32 → Int32 → Int32 → Int32 → Option (Int32 × Mem)} (hk53 : (∀ (σ : Mem) (x1 : Int32) (x2 : Int32) (x3 : Int32) (x4 : Int32), k53 σ x1 x2 x3 x4 = some (r, σ') → ∀ (H : Heap) (locs : List Loc) (ls : Array Slot), gH G σ H → va_S (gAA G) s.heap H locs → lv_has ls 5 [(0, .ref (gad G o 0)), (1, .int x1), (2, .int x2), (3, .int x3), (4, .int x4)] → WB p l e 1 26 s m args below meth c G (some (.int r)) σ' H locs (F0 m 53 ls []))) : (∀ (σ : Mem) (x1 : Int32) (x2 : Int32) (x3 : Int32) (x4 : Int32) (xs0 : Int32) (xs1 : Int32) (xs2 : Int32), fX6_goes_91 k46 k53 o σ x1 x2 x3 x4 xs0 xs1 xs2 = some (r, σ') → ∀ (H : Heap) (locs : List Loc) (ls : Array Slot), gH G σ H → va_S (gAA G) s.heap H locs → lv_has ls 5 [(0, .ref (gad G o 0)), (1, .int x1), (2, .int x2), (3, .int x3), (4, .int x4)] → WB p l e 1 26 s m args below meth c G (some (.int r)) σ' H locs (F0 m 91 ls [.int xs0, .int xs1, .int xs2, .ref (gad G o (32 + 1))])) := by
  intro σ x1 x2 x3 x4 xs0 xs1 xs2 hf H locs ls hH hS hl
  rw [fX6_goes_91.eq_1] at hf
  refine lv_iadd X.hx X.hb dX6_goes_91 ?_
  obtain ⟨hg, hf⟩ := gd_e hf
  refine g_iast X hH hS ⟨_, ho, rfl⟩ hg dX6_goes_92 (fun H locs hH hS => ?_)
  obtain ⟨σ26, he, hf⟩ := stp_e hf
  rw [← he] at hH
  clear he
  refine lv_aload_n X.hx X.hb dX6_goes_93 rfl (lv_at hl 0 rfl) ?_
  refine gfX6_60 X hH ho dX6_goes_94 ?_
  refine lv_iload X.hx X.hb dX6_goes_97 (lv_at hl 4 rfl) ?_
  obtain ⟨hg, hf⟩ := gd_e hf
  refine g_iald X hH ⟨_, ho, rfl⟩ hg dX6_goes_99 ?_
  refine lv_bipush (v := -9) X.hx X.hb dX6_goes_100 (by decide) ?_
  refine lv_icmp_eq (tgt := 147) X.hx X.hb dX6_goes_102 (by decide) (fun c27 => ?_) (fun c27 => ?_)
  · have hf := it_p hf c27
    refine lv_iinc (v := x4 + 1) (lv' := [(4, .int (x4 + 1)), (0, .ref (gad G o 0)), (1, .int x1), (2, .int x2), (3, .int x3)]) X.hx X.hb dX6_goes_147 hl (k := 4) rfl rfl (by decide) rfl (fun ls hl => ?_)
    refine lv_goto (tgt := 53) X.hx X.hb dX6_goes_150 (by decide) ?_
    exact hk53 _ _ _ _ _  hf _ _ _ hH hS (lv_sub hl [1, 2, 3, 4, 0] rfl)
  · have hf := it_n hf c27
    refine lv_aload_n X.hx X.hb dX6_goes_105 rfl (lv_at hl 0 rfl) ?_
    refine gfX6_63 X hH ho dX6_goes_106 ?_
    refine lv_iload X.hx X.hb dX6_goes_109 (lv_at hl 4 rfl) ?_
    obtain ⟨hg, hf⟩ := gd_e hf
    refine g_iald X hH ⟨_, ho, rfl⟩ hg dX6_goes_111 ?_
    refine lv_aload_n X.hx X.hb dX6_goes_112 rfl (lv_at hl 0 rfl) ?_
    refine gfX6_7 X hH ho dX6_goes_113 ?_
    refine lv_icmp_lt (tgt := 147) X.hx X.hb dX6_goes_116 (by decide) (fun c28 => ?_) (fun c28 => ?_)
    · have hf := it_p hf c28
      refine lv_iinc (v := x4 + 1) (lv' := [(4, .int (x4 + 1)), (0, .ref (gad G o 0)), (1, .int x1), (2, .int x2), (3, .int x3)]) X.hx X.hb dX6_goes_147 hl (k := 4) rfl rfl (by decide) rfl (fun ls hl => ?_)
      refine lv_goto (tgt := 53) X.hx X.hb dX6_goes_150 (by decide) ?_
      exact hk53 _ _ _ _ _  hf _ _ _ hH hS (lv_sub hl [1, 2, 3, 4, 0] rfl)
    · have hf := it_n hf c28
      refine lv_aload_n X.hx X.hb dX6_goes_119 rfl (lv_at hl 0 rfl) ?_
      refine lv_iload_n X.hx X.hb dX6_goes_120 rfl (lv_at hl 3 rfl) ?_
      obtain ⟨r29, hr, hf⟩ := bd_e hf
      refine g_callVI (As := [.int x3]) (rest := []) X (kX6_sailsOn l ho hr) (C := RX6) (T := TX6) (N := 39) (ci := 6) rfl ho ⟨cdX6_sailsOn, mlX6_175, imX6_sailsOn, seX6_sailsOn, iniX6⟩ hvX6_sailsOn ⟨Nat.le_of_ble_eq_true rfl, Nat.le_of_ble_eq_true rfl⟩ hH hS hl rfl rfl (Nat.le_of_ble_eq_true rfl) ⟨Nat.le_refl 0, Nat.le_refl 0⟩ dX6_goes_121 (fun H locs hH hS => ?_)
      refine lv_if_eq (tgt := 147) X.hx X.hb dX6_goes_124 (by decide) (fun c30 => ?_) (fun c30 => ?_)
      · have hf := it_p hf c30
        refine lv_iinc (v := x4 + 1) (lv' := [(4, .int (x4 + 1)), (0, .ref (gad G o 0)), (1, .int x1), (2, .int x2), (3, .int x3)]) X.hx X.hb dX6_goes_147 hl (k := 4) rfl rfl (by decide) rfl (fun ls hl => ?_)
        refine lv_goto (tgt := 53) X.hx X.hb dX6_goes_150 (by decide) ?_
        exact hk53 _ _ _ _ _  hf _ _ _ hH hS (lv_sub hl [1, 2, 3, 4, 0] rfl)
      · have hf := it_n hf c30
        refine lv_aload_n X.hx X.hb dX6_goes_127 rfl (lv_at hl 0 rfl) ?_
        refine gfX6_66 X hH ho dX6_goes_128 ?_
        refine lv_iload X.hx X.hb dX6_goes_131 (lv_at hl 4 rfl) ?_
        refine lv_iload_n X.hx X.hb dX6_goes_133 rfl (lv_at hl 3 rfl) ?_
        obtain ⟨hg, hf⟩ := gd_e hf
        refine g_iast X hH hS ⟨_, ho, rfl⟩ hg dX6_goes_134 (fun H locs hH hS => ?_)
        obtain ⟨σ31, he, hf⟩ := stp_e hf
        rw [← he] at hH
        clear he
        refine lv_aload_n X.hx X.hb dX6_goes_135 rfl (lv_at hl 0 rfl) ?_
        refine gfX6_60 X hH ho dX6_goes_136 ?_
        refine lv_iload X.hx X.hb dX6_goes_139 (lv_at hl 4 rfl) ?_
        refine lv_bipush (v := -9) X.hx X.hb dX6_goes_141 (by decide) ?_
        obtain ⟨hg, hf⟩ := gd_e hf
        refine g_iast X hH hS ⟨_, ho, rfl⟩ hg dX6_goes_143 (fun H locs hH hS => ?_)
        obtain ⟨σ32, he, hf⟩ := stp_e hf
        rw [← he] at hH
        clear he
        refine lv_iinc (v := x1 + (-1)) (lv' := [(1, .int (x1 + (-1))), (0, .ref (gad G o 0)), (2, .int x2), (3, .int x3), (4, .int x4)]) X.hx X.hb dX6_goes_144 hl (k := 1) rfl rfl (by decide) rfl (fun ls hl => ?_)
        refine lv_iinc (v := x4 + 1) (lv' := [(4, .int (x4 + 1)), (1, .int (x1 + (-1))), (0, .ref (gad G o 0)), (2, .int x2), (3, .int x3)]) X.hx X.hb dX6_goes_147 hl (k := 4) rfl rfl (by decide) rfl (fun ls hl => ?_)
        refine lv_goto (tgt := 53) X.hx X.hb dX6_goes_150 (by decide) ?_
        exact hk53 _ _ _ _ _  hf _ _ _ hH hS (lv_sub hl [2, 1, 3, 4, 0] rfl)
set_option maxRecDepth 20000 in
set_option maxHeartbeats 4000000 in
theorem bX6_goes_53 {p : Program} {l : Launch} {e : Env} {s : State} {m : MethodId} {args : Array Value} {below : List Frame} {meth : Method} {c : Code} {G : gG} (X : gX p s m args meth c yX6_goes cX6_goes 5 (some .int) RX6 G) {o : Nat} (ho : gsh G o = some 6)  {r : Int32} {σ' : Mem} {k46 : Mem → Int32 → Int32 → Int32 → Option (Int32 × Mem)} (hk46 : (∀ (σ : Mem) (x1 : Int32) (x2 : Int32) (x3 : Int32), k46 σ x1 x2 x3 = some (r, σ') → ∀ (H : Heap) (locs : List Loc) (ls : Array Slot), gH G σ H → va_S (gAA G) s.heap H locs → lv_has ls 5 [(0, .ref (gad G o 0)), (1, .int x1), (2, .int x2), (3, .int x3)] → WB p l e 1 26 s m args below meth c G (some (.int r)) σ' H locs (F0 m 46 ls []))) : (∀ (n : Nat) (σ : Mem) (x1 : Int32) (x2 : Int32) (x3 : Int32) (x4 : Int32), fX6_goes_53 k46 o n σ x1 x2 x3 x4 = some (r, σ') → ∀ (H : Heap) (locs : List Loc) (ls : Array Slot), gH G σ H → va_S (gAA G) s.heap H locs → lv_has ls 5 [(0, .ref (gad G o 0)), (1, .int x1), (2, .int x2), (3, .int x3), (4, .int x4)] → WB p l e 1 26 s m args below meth c G (some (.int r)) σ' H locs (F0 m 53 ls [])) := by
  intro n
  induction n with
  | zero => intro σ x1 x2 x3 x4 hf H locs ls hH hS hl; exact nomatch (show (none : Option (Int32 × Mem)) = some _ from hf)
  | succ n ih =>
    intro σ x1 x2 x3 x4 hf H locs ls hH hS hl
    rw [fX6_goes_53.eq_2] at hf
    refine lv_iload X.hx X.hb dX6_goes_53 (lv_at hl 4 rfl) ?_
    refine lv_aload_n X.hx X.hb dX6_goes_55 rfl (lv_at hl 0 rfl) ?_
    refine gfX6_82 X hH ho dX6_goes_56 ?_
    refine lv_icmp_ge (tgt := 153) X.hx X.hb dX6_goes_59 (by decide) (fun c33 => ?_) (fun c33 => ?_)
    · have hf := it_p hf c33
      refine lv_iconst (v := 0) X.hx X.hb dX6_goes_153 (by decide) ?_
      refine lv_istore (lv' := [(4, .int (0 : Int32)), (0, .ref (gad G o 0)), (1, .int x1), (2, .int x2), (3, .int x3)]) X.hx X.hb dX6_goes_154 hl (by decide) rfl (fun ls hl => ?_)
      exact bX6_goes_156 X  ho hk46 _ _ _ _ _ _  hf _ _ _ hH hS (lv_sub hl [1, 2, 3, 4, 0] rfl)
    · have hf := it_n hf c33
      refine lv_aload_n X.hx X.hb dX6_goes_62 rfl (lv_at hl 0 rfl) ?_
      refine gfX6_63 X hH ho dX6_goes_63 ?_
      refine lv_iload X.hx X.hb dX6_goes_66 (lv_at hl 4 rfl) ?_
      refine lv_dup2_11 X.hx X.hb dX6_goes_68 rfl rfl ?_
      obtain ⟨hg, hf⟩ := gd_e hf
      refine g_iald X hH ⟨_, ho, rfl⟩ hg dX6_goes_69 ?_
      refine lv_aload_n X.hx X.hb dX6_goes_70 rfl (lv_at hl 0 rfl) ?_
      refine gfX6_60 X hH ho dX6_goes_71 ?_
      refine lv_iload X.hx X.hb dX6_goes_74 (lv_at hl 4 rfl) ?_
      obtain ⟨hg, hf⟩ := gd_e hf
      refine g_iald X hH ⟨_, ho, rfl⟩ hg dX6_goes_76 ?_
      refine lv_bipush (v := -9) X.hx X.hb dX6_goes_77 (by decide) ?_
      refine lv_icmp_eq (tgt := 86) X.hx X.hb dX6_goes_79 (by decide) (fun c34 => ?_) (fun c34 => ?_)
      · have hf := it_p hf c34
        refine lv_iconst (v := 0) X.hx X.hb dX6_goes_86 (by decide) ?_
        refine lv_goto (tgt := 91) X.hx X.hb dX6_goes_87 (by decide) ?_
        exact bX6_goes_91 X  ho hk46 ih  _ _ _ _ _ _ _ _  hf _ _ _ hH hS (lv_sub hl [0, 1, 2, 3, 4] rfl)
      · have hf := it_n hf c34
        refine lv_iload_n X.hx X.hb dX6_goes_82 rfl (lv_at hl 3 rfl) ?_
        refine lv_if_ne (tgt := 90) X.hx X.hb dX6_goes_83 (by decide) (fun c35 => ?_) (fun c35 => ?_)
        · have hf := it_n hf c35
          refine lv_iconst (v := 1) X.hx X.hb dX6_goes_90 (by decide) ?_
          exact bX6_goes_91 X  ho hk46 ih  _ _ _ _ _ _ _ _  hf _ _ _ hH hS (lv_sub hl [0, 1, 2, 3, 4] rfl)
        · have hf := it_p hf c35
          refine lv_iconst (v := 0) X.hx X.hb dX6_goes_86 (by decide) ?_
          refine lv_goto (tgt := 91) X.hx X.hb dX6_goes_87 (by decide) ?_
          exact bX6_goes_91 X  ho hk46 ih  _ _ _ _ _ _ _ _  hf _ _ _ hH hS (lv_sub hl [0, 1, 2, 3, 4] rfl)
set_option maxRecDepth 20000 in
set_option maxHeartbeats 4000000 in
theorem bX6_goes_46 {p : Program} {l : Launch} {e : Env} {s : State} {m : MethodId} {args : Array Value} {below : List Frame} {meth : Method} {c : Code} {G : gG} (X : gX p s m args meth c yX6_goes cX6_goes 5 (some .int) RX6 G) {o : Nat} (ho : gsh G o = some 6)  {r : Int32} {σ' : Mem} : (∀ (n : Nat) (σ : Mem) (x1 : Int32) (x2 : Int32) (x3 : Int32), fX6_goes_46 o n σ x1 x2 x3 = some (r, σ') → ∀ (H : Heap) (locs : List Loc) (ls : Array Slot), gH G σ H → va_S (gAA G) s.heap H locs → lv_has ls 5 [(0, .ref (gad G o 0)), (1, .int x1), (2, .int x2), (3, .int x3)] → WB p l e 1 26 s m args below meth c G (some (.int r)) σ' H locs (F0 m 46 ls [])) := by
  intro n
  induction n with
  | zero => intro σ x1 x2 x3 hf H locs ls hH hS hl; exact nomatch (show (none : Option (Int32 × Mem)) = some _ from hf)
  | succ n ih =>
    intro σ x1 x2 x3 hf H locs ls hH hS hl
    rw [fX6_goes_46.eq_2] at hf
    refine lv_iload_n X.hx X.hb dX6_goes_46 rfl (lv_at hl 1 rfl) ?_
    refine lv_if_le (tgt := 216) X.hx X.hb dX6_goes_47 (by decide) (fun c36 => ?_) (fun c36 => ?_)
    · have hf := it_p hf c36
      refine lv_iload_n X.hx X.hb dX6_goes_216 rfl (lv_at hl 2 rfl) ?_
      have e := so2 hf
      rw [e.2] at hH
      exact g_iret X hH hS rfl e.1 dX6_goes_217
    · have hf := it_n hf c36
      refine lv_iconst (v := 0) X.hx X.hb dX6_goes_50 (by decide) ?_
      refine lv_istore (lv' := [(4, .int (0 : Int32)), (0, .ref (gad G o 0)), (1, .int x1), (2, .int x2), (3, .int x3)]) X.hx X.hb dX6_goes_51 hl (by decide) rfl (fun ls hl => ?_)
      exact bX6_goes_53 X  ho ih _ _ _ _ _ _  hf _ _ _ hH hS (lv_sub hl [1, 2, 3, 4, 0] rfl)
set_option maxRecDepth 20000 in
set_option maxHeartbeats 4000000 in
theorem bX6_goes_2 {p : Program} {l : Launch} {e : Env} {s : State} {m : MethodId} {args : Array Value} {below : List Frame} {meth : Method} {c : Code} {G : gG} (X : gX p s m args meth c yX6_goes cX6_goes 5 (some .int) RX6 G) {o : Nat} (ho : gsh G o = some 6)  {r : Int32} {σ' : Mem} : (∀ (n : Nat) (σ : Mem) (x1 : Int32), fX6_goes_2 o n σ x1 = some (r, σ') → ∀ (H : Heap) (locs : List Loc) (ls : Array Slot), gH G σ H → va_S (gAA G) s.heap H locs → lv_has ls 5 [(0, .ref (gad G o 0)), (1, .int x1)] → WB p l e 1 26 s m args below meth c G (some (.int r)) σ' H locs (F0 m 2 ls [])) := by
  intro n
  induction n with
  | zero => intro σ x1 hf H locs ls hH hS hl; exact nomatch (show (none : Option (Int32 × Mem)) = some _ from hf)
  | succ n ih =>
    intro σ x1 hf H locs ls hH hS hl
    rw [fX6_goes_2.eq_2] at hf
    refine lv_iload_n X.hx X.hb dX6_goes_2 rfl (lv_at hl 1 rfl) ?_
    refine lv_bipush (v := 6) X.hx X.hb dX6_goes_3 (by decide) ?_
    refine lv_icmp_ge (tgt := 37) X.hx X.hb dX6_goes_5 (by decide) (fun c37 => ?_) (fun c37 => ?_)
    · have hf := it_p hf c37
      refine lv_aload_n X.hx X.hb dX6_goes_37 rfl (lv_at hl 0 rfl) ?_
      refine gfX6_82 X hH ho dX6_goes_38 ?_
      refine lv_istore_n (lv' := [(1, .int (mI σ o 3)), (0, .ref (gad G o 0))]) X.hx X.hb dX6_goes_41 rfl hl (by decide) rfl (fun ls hl => ?_)
      refine lv_iconst (v := 0) X.hx X.hb dX6_goes_42 (by decide) ?_
      refine lv_istore_n (lv' := [(2, .int (0 : Int32)), (1, .int (mI σ o 3)), (0, .ref (gad G o 0))]) X.hx X.hb dX6_goes_43 rfl hl (by decide) rfl (fun ls hl => ?_)
      refine lv_iconst (v := 0) X.hx X.hb dX6_goes_44 (by decide) ?_
      refine lv_istore_n (lv' := [(3, .int (0 : Int32)), (2, .int (0 : Int32)), (1, .int (mI σ o 3)), (0, .ref (gad G o 0))]) X.hx X.hb dX6_goes_45 rfl hl (by decide) rfl (fun ls hl => ?_)
      exact bX6_goes_46 X  ho  _ _ _ _ _  hf _ _ _ hH hS (lv_sub hl [3, 2, 1, 0] rfl)
    · have hf := it_n hf c37
      refine lv_aload_n X.hx X.hb dX6_goes_8 rfl (lv_at hl 0 rfl) ?_
      refine gfX6_60 X hH ho dX6_goes_9 ?_
      refine lv_iload_n X.hx X.hb dX6_goes_12 rfl (lv_at hl 1 rfl) ?_
      refine lv_bipush (v := -9) X.hx X.hb dX6_goes_13 (by decide) ?_
      obtain ⟨hg, hf⟩ := gd_e hf
      refine g_iast X hH hS ⟨_, ho, rfl⟩ hg dX6_goes_15 (fun H locs hH hS => ?_)
      obtain ⟨σ38, he, hf⟩ := stp_e hf
      rw [← he] at hH
      clear he
      refine lv_aload_n X.hx X.hb dX6_goes_16 rfl (lv_at hl 0 rfl) ?_
      refine gfX6_63 X hH ho dX6_goes_17 ?_
      refine lv_iload_n X.hx X.hb dX6_goes_20 rfl (lv_at hl 1 rfl) ?_
      refine lv_iconst (v := 0) X.hx X.hb dX6_goes_21 (by decide) ?_
      obtain ⟨hg, hf⟩ := gd_e hf
      refine g_iast X hH hS ⟨_, ho, rfl⟩ hg dX6_goes_22 (fun H locs hH hS => ?_)
      obtain ⟨σ39, he, hf⟩ := stp_e hf
      rw [← he] at hH
      clear he
      refine lv_aload_n X.hx X.hb dX6_goes_23 rfl (lv_at hl 0 rfl) ?_
      refine gfX6_66 X hH ho dX6_goes_24 ?_
      refine lv_iload_n X.hx X.hb dX6_goes_27 rfl (lv_at hl 1 rfl) ?_
      refine lv_bipush (v := -9) X.hx X.hb dX6_goes_28 (by decide) ?_
      obtain ⟨hg, hf⟩ := gd_e hf
      refine g_iast X hH hS ⟨_, ho, rfl⟩ hg dX6_goes_30 (fun H locs hH hS => ?_)
      obtain ⟨σ40, he, hf⟩ := stp_e hf
      rw [← he] at hH
      clear he
      refine lv_iinc (v := x1 + 1) (lv' := [(1, .int (x1 + 1)), (0, .ref (gad G o 0))]) X.hx X.hb dX6_goes_31 hl (k := 1) rfl rfl (by decide) rfl (fun ls hl => ?_)
      refine lv_goto (tgt := 2) X.hx X.hb dX6_goes_34 (by decide) ?_
      exact ih _ _  hf _ _ _ hH hS (lv_sub hl [1, 0] rfl)
set_option maxRecDepth 20000 in
set_option maxHeartbeats 4000000 in
theorem kX6_goes (l : Launch) {G : gG} {σ : Mem} {r : Int32} {σ' : Mem} {o : Nat} (ho : gsh G o = some 6)  (hf : fX6_goes σ o = some (r, σ')) : CM l yX6_goes cX6_goes 5 (some .int) 1 26 G σ [.ref (gad G o 0)] (some (.int r)) σ' := by
  refine CM.of (by decide) (Nat.le_of_ble_eq_true rfl) (fun p e s m below meth c ls X hH hl => ?_)
  have X : gX p s m _ meth c yX6_goes cX6_goes 5 (some .int) RX6 G := X
  have hS : va_S (gAA G) s.heap s.heap [] := va_S.rf
  have hl : lv_has ls 5 [(0, .ref (gad G o 0))] := hl
  rw [fX6_goes.eq_1] at hf
  refine lv_iconst (v := 0) X.hx X.hb dX6_goes_0 (by decide) ?_
  refine lv_istore_n (lv' := [(1, .int (0 : Int32)), (0, .ref (gad G o 0))]) X.hx X.hb dX6_goes_1 rfl hl (by decide) rfl (fun ls hl => ?_)
  exact bX6_goes_2 X  ho  _ _ _  hf _ _ _ hH hS (lv_sub hl [1, 0] rfl)
set_option maxRecDepth 20000 in
set_option maxHeartbeats 4000000 in
theorem bX6_power_5 {p : Program} {l : Launch} {e : Env} {s : State} {m : MethodId} {args : Array Value} {below : List Frame} {meth : Method} {c : Code} {G : gG} (X : gX p s m args meth c yX6_power cX6_power 5 (some .int) RX6 G) {o : Nat} (ho : gsh G o = some 6)  {σ : Mem} {r : Int32} : (∀ (n : Nat) (x1 : Int32) (x2 : Int32) (x3 : Int32) (x4 : Int32), fX6_power_5 o n x1 x2 x3 x4 = some r → ∀ (H : Heap) (locs : List Loc) (ls : Array Slot), gH G σ H → va_S (gAA G) s.heap H locs → lv_has ls 5 [(1, .int x1), (2, .int x2), (3, .int x3), (4, .int x4)] → WB p l e 0 0 s m args below meth c G (some (.int r)) σ H locs (F0 m 5 ls [])) := by
  intro n
  induction n with
  | zero => intro x1 x2 x3 x4 hf H locs ls hH hS hl; exact nomatch (show (none : Option Int32) = some _ from hf)
  | succ n ih =>
    intro x1 x2 x3 x4 hf H locs ls hH hS hl
    rw [fX6_power_5.eq_2] at hf
    refine lv_iload X.hx X.hb dX6_power_5 (lv_at hl 3 rfl) ?_
    refine lv_iload_n X.hx X.hb dX6_power_7 rfl (lv_at hl 1 rfl) ?_
    refine lv_icmp_ge (tgt := 21) X.hx X.hb dX6_power_8 (by decide) (fun c2 => ?_) (fun c2 => ?_)
    · have hf := it_p hf c2
      refine lv_iload_n X.hx X.hb dX6_power_21 rfl (lv_at hl 2 rfl) ?_
      exact g_iret X hH hS rfl (so1 hf) dX6_power_22
    · have hf := it_n hf c2
      refine lv_iload_n X.hx X.hb dX6_power_11 rfl (lv_at hl 2 rfl) ?_
      refine lv_iload_n X.hx X.hb dX6_power_12 rfl (lv_at hl 0 rfl) ?_
      refine lv_imul X.hx X.hb dX6_power_13 ?_
      refine lv_istore_n (lv' := [(3, .int (x3 * x1)), (1, .int x1), (2, .int x2), (4, .int x4)]) X.hx X.hb dX6_power_14 rfl hl (by decide) rfl (fun ls hl => ?_)
      refine lv_iinc (v := x4 + 1) (lv' := [(4, .int (x4 + 1)), (3, .int (x3 * x1)), (1, .int x1), (2, .int x2)]) X.hx X.hb dX6_power_15 hl (k := 3) rfl rfl (by decide) rfl (fun ls hl => ?_)
      refine lv_goto (tgt := 5) X.hx X.hb dX6_power_18 (by decide) ?_
      exact ih _ _ _ _  hf _ _ _ hH hS (lv_sub hl [2, 3, 1, 0] rfl)
set_option maxRecDepth 20000 in
set_option maxHeartbeats 4000000 in
theorem kX6_power (l : Launch) {G : gG} {σ : Mem} {r : Int32} {o : Nat} {x1 : Int32} {x2 : Int32} (ho : gsh G o = some 6)  (hf : fX6_power o x1 x2 = some r) : CM l yX6_power cX6_power 5 (some .int) 0 0 G σ [.ref (gad G o 0), .int x1, .int x2] (some (.int r)) σ := by
  refine CM.of (by decide) (Nat.le_of_ble_eq_true rfl) (fun p e s m below meth c ls X hH hl => ?_)
  have X : gX p s m _ meth c yX6_power cX6_power 5 (some .int) RX6 G := X
  have hS : va_S (gAA G) s.heap s.heap [] := va_S.rf
  have hl : lv_has ls 5 [(0, .ref (gad G o 0)), (1, .int x1), (2, .int x2)] := hl
  rw [fX6_power.eq_1] at hf
  refine lv_iconst (v := 1) X.hx X.hb dX6_power_0 (by decide) ?_
  refine lv_istore_n (lv' := [(3, .int (1 : Int32)), (0, .ref (gad G o 0)), (1, .int x1), (2, .int x2)]) X.hx X.hb dX6_power_1 rfl hl (by decide) rfl (fun ls hl => ?_)
  refine lv_iconst (v := 0) X.hx X.hb dX6_power_2 (by decide) ?_
  refine lv_istore (lv' := [(4, .int (0 : Int32)), (3, .int (1 : Int32)), (0, .ref (gad G o 0)), (1, .int x1), (2, .int x2)]) X.hx X.hb dX6_power_3 hl (by decide) rfl (fun ls hl => ?_)
  exact bX6_power_5 X  ho  _ _ _ _ _  hf _ _ _ hH hS (lv_sub hl [3, 4, 1, 0] rfl)
set_option maxRecDepth 20000 in
set_option maxHeartbeats 4000000 in
theorem bX6_lays_9 {p : Program} {l : Launch} {e : Env} {s : State} {m : MethodId} {args : Array Value} {below : List Frame} {meth : Method} {c : Code} {G : gG} (X : gX p s m args meth c yX6_lays cX6_lays 4 none RX6 G) {o : Nat} (ho : gsh G o = some 6)  {σ' : Mem} : (∀ (n : Nat) (σ : Mem) (x2 : Int32) (x3 : Int32), fX6_lays_9 o n σ x2 x3 = some σ' → ∀ (H : Heap) (locs : List Loc) (ls : Array Slot), gH G σ H → va_S (gAA G) s.heap H locs → lv_has ls 4 [(0, .ref (gad G o 0)), (2, .int x2), (3, .int x3)] → WB p l e 0 0 s m args below meth c G none σ' H locs (F0 m 9 ls [])) := by
  intro n
  induction n with
  | zero => intro σ x2 x3 hf H locs ls hH hS hl; exact nomatch (show (none : Option Mem) = some _ from hf)
  | succ n ih =>
    intro σ x2 x3 hf H locs ls hH hS hl
    rw [fX6_lays_9.eq_2] at hf
    refine lv_iload_n X.hx X.hb dX6_lays_9 rfl (lv_at hl 2 rfl) ?_
    refine lv_if_lt (tgt := 38) X.hx X.hb dX6_lays_10 (by decide) (fun c3 => ?_) (fun c3 => ?_)
    · have hf := it_p hf c3
      have e := so1 hf
      rw [e] at hH
      exact g_vret X hH hS rfl dX6_lays_38
    · have hf := it_n hf c3
      refine lv_aload_n X.hx X.hb dX6_lays_13 rfl (lv_at hl 0 rfl) ?_
      refine gfX6_57 X hH ho dX6_lays_14 ?_
      refine lv_iload_n X.hx X.hb dX6_lays_17 rfl (lv_at hl 2 rfl) ?_
      refine lv_iload_n X.hx X.hb dX6_lays_18 rfl (lv_at hl 1 rfl) ?_
      refine lv_aload_n X.hx X.hb dX6_lays_19 rfl (lv_at hl 0 rfl) ?_
      refine gfX6_13 X hH ho dX6_lays_20 ?_
      obtain ⟨hg, hf⟩ := gd_e hf
      refine lv_irem X.hx X.hb dX6_lays_23 (of_decide_eq_true hg) ?_
      obtain ⟨hg, hf⟩ := gd_e hf
      refine g_iast X hH hS ⟨_, ho, rfl⟩ hg dX6_lays_24 (fun H locs hH hS => ?_)
      obtain ⟨σ4, he, hf⟩ := stp_e hf
      rw [← he] at hH
      clear he
      refine lv_iload_n X.hx X.hb dX6_lays_25 rfl (lv_at hl 1 rfl) ?_
      refine lv_aload_n X.hx X.hb dX6_lays_26 rfl (lv_at hl 0 rfl) ?_
      refine gfX6_13 X hH ho dX6_lays_27 ?_
      obtain ⟨hg, hf⟩ := gd_e hf
      refine lv_idiv X.hx X.hb dX6_lays_30 (of_decide_eq_true hg) ?_
      refine lv_istore_n (lv' := [(2, .int (x2 / (mI σ4 o 1))), (0, .ref (gad G o 0)), (3, .int x3)]) X.hx X.hb dX6_lays_31 rfl hl (by decide) rfl (fun ls hl => ?_)
      refine lv_iinc (v := x3 + (-1)) (lv' := [(3, .int (x3 + (-1))), (2, .int (x2 / (mI σ4 o 1))), (0, .ref (gad G o 0))]) X.hx X.hb dX6_lays_32 hl (k := 2) rfl rfl (by decide) rfl (fun ls hl => ?_)
      refine lv_goto (tgt := 9) X.hx X.hb dX6_lays_35 (by decide) ?_
      exact ih _ _ _  hf _ _ _ hH hS (lv_sub hl [2, 1, 0] rfl)
set_option maxRecDepth 20000 in
set_option maxHeartbeats 4000000 in
theorem kX6_lays (l : Launch) {G : gG} {σ : Mem} {σ' : Mem} {o : Nat} {x1 : Int32} (ho : gsh G o = some 6)  (hf : fX6_lays σ o x1 = some σ') : CM l yX6_lays cX6_lays 4 none 0 0 G σ [.ref (gad G o 0), .int x1] none σ' := by
  refine CM.of (by decide) (Nat.le_of_ble_eq_true rfl) (fun p e s m below meth c ls X hH hl => ?_)
  have X : gX p s m _ meth c yX6_lays cX6_lays 4 none RX6 G := X
  have hS : va_S (gAA G) s.heap s.heap [] := va_S.rf
  have hl : lv_has ls 4 [(0, .ref (gad G o 0)), (1, .int x1)] := hl
  rw [fX6_lays.eq_1] at hf
  refine lv_iload_n X.hx X.hb dX6_lays_0 rfl (lv_at hl 1 rfl) ?_
  refine lv_istore_n (lv' := [(2, .int x1), (0, .ref (gad G o 0)), (1, .int x1)]) X.hx X.hb dX6_lays_1 rfl hl (by decide) rfl (fun ls hl => ?_)
  refine lv_aload_n X.hx X.hb dX6_lays_2 rfl (lv_at hl 1 rfl) ?_
  refine gfX6_82 X hH ho dX6_lays_3 ?_
  refine lv_iconst (v := 1) X.hx X.hb dX6_lays_6 (by decide) ?_
  refine lv_isub X.hx X.hb dX6_lays_7 ?_
  refine lv_istore_n (lv' := [(3, .int ((mI σ o 3) - (1 : Int32))), (2, .int x1), (0, .ref (gad G o 0)), (1, .int x1)]) X.hx X.hb dX6_lays_8 rfl hl (by decide) rfl (fun ls hl => ?_)
  exact bX6_lays_9 X  ho  _ _ _ _  hf _ _ _ hH hS (lv_sub hl [2, 1, 0] rfl)
set_option maxRecDepth 20000 in
set_option maxHeartbeats 4000000 in
theorem bX6_sailedBy_4 {p : Program} {l : Launch} {e : Env} {s : State} {m : MethodId} {args : Array Value} {below : List Frame} {meth : Method} {c : Code} {G : gG} (X : gX p s m args meth c yX6_sailedBy cX6_sailedBy 4 (some .int) RX6 G) {o : Nat} (ho : gsh G o = some 6)  {σ : Mem} {r : Int32} : (∀ (n : Nat) (x1 : Int32) (x2 : Int32) (x3 : Int32), fX6_sailedBy_4 σ o n x1 x2 x3 = some r → ∀ (H : Heap) (locs : List Loc) (ls : Array Slot), gH G σ H → va_S (gAA G) s.heap H locs → lv_has ls 4 [(0, .ref (gad G o 0)), (1, .int x1), (2, .int x2), (3, .int x3)] → WB p l e 0 0 s m args below meth c G (some (.int r)) σ H locs (F0 m 4 ls [])) := by
  intro n
  induction n with
  | zero => intro x1 x2 x3 hf H locs ls hH hS hl; exact nomatch (show (none : Option Int32) = some _ from hf)
  | succ n ih =>
    intro x1 x2 x3 hf H locs ls hH hS hl
    rw [fX6_sailedBy_4.eq_2] at hf
    refine lv_iload_n X.hx X.hb dX6_sailedBy_4 rfl (lv_at hl 3 rfl) ?_
    refine lv_aload_n X.hx X.hb dX6_sailedBy_5 rfl (lv_at hl 0 rfl) ?_
    refine gfX6_82 X hH ho dX6_sailedBy_6 ?_
    refine lv_icmp_ge (tgt := 36) X.hx X.hb dX6_sailedBy_9 (by decide) (fun c3 => ?_) (fun c3 => ?_)
    · have hf := it_p hf c3
      refine lv_iload_n X.hx X.hb dX6_sailedBy_36 rfl (lv_at hl 2 rfl) ?_
      exact g_iret X hH hS rfl (so1 hf) dX6_sailedBy_37
    · have hf := it_n hf c3
      refine lv_iload_n X.hx X.hb dX6_sailedBy_12 rfl (lv_at hl 2 rfl) ?_
      refine lv_aload_n X.hx X.hb dX6_sailedBy_13 rfl (lv_at hl 0 rfl) ?_
      refine gfX6_66 X hH ho dX6_sailedBy_14 ?_
      refine lv_iload_n X.hx X.hb dX6_sailedBy_17 rfl (lv_at hl 3 rfl) ?_
      obtain ⟨hg, hf⟩ := gd_e hf
      refine g_iald X hH ⟨_, ho, rfl⟩ hg dX6_sailedBy_18 ?_
      refine lv_iload_n X.hx X.hb dX6_sailedBy_19 rfl (lv_at hl 1 rfl) ?_
      refine lv_icmp_gt (tgt := 27) X.hx X.hb dX6_sailedBy_20 (by decide) (fun c4 => ?_) (fun c4 => ?_)
      · have hf := it_p hf c4
        refine lv_iconst (v := 0) X.hx X.hb dX6_sailedBy_27 (by decide) ?_
        refine lv_iadd X.hx X.hb dX6_sailedBy_28 ?_
        refine lv_istore_n (lv' := [(2, .int (x2 + (0 : Int32))), (0, .ref (gad G o 0)), (1, .int x1), (3, .int x3)]) X.hx X.hb dX6_sailedBy_29 rfl hl (by decide) rfl (fun ls hl => ?_)
        refine lv_iinc (v := x3 + 1) (lv' := [(3, .int (x3 + 1)), (2, .int (x2 + (0 : Int32))), (0, .ref (gad G o 0)), (1, .int x1)]) X.hx X.hb dX6_sailedBy_30 hl (k := 3) rfl rfl (by decide) rfl (fun ls hl => ?_)
        refine lv_goto (tgt := 4) X.hx X.hb dX6_sailedBy_33 (by decide) ?_
        exact ih _ _ _  hf _ _ _ hH hS (lv_sub hl [2, 3, 1, 0] rfl)
      · have hf := it_n hf c4
        refine lv_iconst (v := 1) X.hx X.hb dX6_sailedBy_23 (by decide) ?_
        refine lv_goto (tgt := 28) X.hx X.hb dX6_sailedBy_24 (by decide) ?_
        refine lv_iadd X.hx X.hb dX6_sailedBy_28 ?_
        refine lv_istore_n (lv' := [(2, .int (x2 + (1 : Int32))), (0, .ref (gad G o 0)), (1, .int x1), (3, .int x3)]) X.hx X.hb dX6_sailedBy_29 rfl hl (by decide) rfl (fun ls hl => ?_)
        refine lv_iinc (v := x3 + 1) (lv' := [(3, .int (x3 + 1)), (2, .int (x2 + (1 : Int32))), (0, .ref (gad G o 0)), (1, .int x1)]) X.hx X.hb dX6_sailedBy_30 hl (k := 3) rfl rfl (by decide) rfl (fun ls hl => ?_)
        refine lv_goto (tgt := 4) X.hx X.hb dX6_sailedBy_33 (by decide) ?_
        exact ih _ _ _  hf _ _ _ hH hS (lv_sub hl [2, 3, 1, 0] rfl)
set_option maxRecDepth 20000 in
set_option maxHeartbeats 4000000 in
theorem kX6_sailedBy (l : Launch) {G : gG} {σ : Mem} {r : Int32} {o : Nat} {x1 : Int32} (ho : gsh G o = some 6)  (hf : fX6_sailedBy σ o x1 = some r) : CM l yX6_sailedBy cX6_sailedBy 4 (some .int) 0 0 G σ [.ref (gad G o 0), .int x1] (some (.int r)) σ := by
  refine CM.of (by decide) (Nat.le_of_ble_eq_true rfl) (fun p e s m below meth c ls X hH hl => ?_)
  have X : gX p s m _ meth c yX6_sailedBy cX6_sailedBy 4 (some .int) RX6 G := X
  have hS : va_S (gAA G) s.heap s.heap [] := va_S.rf
  have hl : lv_has ls 4 [(0, .ref (gad G o 0)), (1, .int x1)] := hl
  rw [fX6_sailedBy.eq_1] at hf
  refine lv_iconst (v := 0) X.hx X.hb dX6_sailedBy_0 (by decide) ?_
  refine lv_istore_n (lv' := [(2, .int (0 : Int32)), (0, .ref (gad G o 0)), (1, .int x1)]) X.hx X.hb dX6_sailedBy_1 rfl hl (by decide) rfl (fun ls hl => ?_)
  refine lv_iconst (v := 0) X.hx X.hb dX6_sailedBy_2 (by decide) ?_
  refine lv_istore_n (lv' := [(3, .int (0 : Int32)), (2, .int (0 : Int32)), (0, .ref (gad G o 0)), (1, .int x1)]) X.hx X.hb dX6_sailedBy_3 rfl hl (by decide) rfl (fun ls hl => ?_)
  exact bX6_sailedBy_4 X  ho  _ _ _ _  hf _ _ _ hH hS (lv_sub hl [2, 3, 1, 0] rfl)
