set_option maxRecDepth 20000 in
set_option maxHeartbeats 4000000 in
theorem bX6_most_79 {p : Program} {l : Launch} {e : Env} {s : State} {m : MethodId} {args : Array Value} {below : List Frame} {meth : Method} {c : Code} {G : gG} (X : gX p s m args meth c yX6_most cX6_most 6 (some .int) RX6 G) {o : Nat} (ho : gsh G o = some 6)  {r : Int32} {σ' : Mem} {k35 : Mem → Int32 → Int32 → Int32 → Int32 → Int32 → Option (Int32 × Mem)} (hk35 : (∀ (σ : Mem) (x1 : Int32) (x2 : Int32) (x3 : Int32) (x4 : Int32) (x5 : Int32), k35 σ x1 x2 x3 x4 x5 = some (r, σ') → ∀ (H : Heap) (locs : List Loc) (ls : Array Slot), gH G σ H → va_S (gAA G) s.heap H locs → lv_has ls 6 [(0, .ref (gad G o 0)), (1, .int x1), (2, .int x2), (3, .int x3), (4, .int x4), (5, .int x5)] → WB p l e 2 50 s m args below meth c G (some (.int r)) σ' H locs (F0 m 35 ls []))) : (∀ (σ : Mem) (x1 : Int32) (x2 : Int32) (x4 : Int32) (x5 : Int32) (xs0 : Int32), fX6_most_79 k35 o σ x1 x2 x4 x5 xs0 = some (r, σ') → ∀ (H : Heap) (locs : List Loc) (ls : Array Slot), gH G σ H → va_S (gAA G) s.heap H locs → lv_has ls 6 [(0, .ref (gad G o 0)), (1, .int x1), (2, .int x2), (4, .int x4), (5, .int x5)] → WB p l e 2 50 s m args below meth c G (some (.int r)) σ' H locs (F0 m 79 ls [.int xs0])) := by
  intro σ x1 x2 x4 x5 xs0 hf H locs ls hH hS hl
  rw [fX6_most_79.eq_1] at hf
  refine lv_istore_n (lv' := [(3, .int xs0), (0, .ref (gad G o 0)), (1, .int x1), (2, .int x2), (4, .int x4), (5, .int x5)]) X.hx X.hb dX6_most_79 rfl hl (by decide) rfl (fun ls hl => ?_)
  refine lv_aload_n X.hx X.hb dX6_most_80 rfl (lv_at hl 1 rfl) ?_
  refine lv_iload_n X.hx X.hb dX6_most_81 rfl (lv_at hl 2 rfl) ?_
  obtain ⟨r18, hr, hf⟩ := bd_e hf
  refine g_callVI (As := [.int x1]) (rest := []) X (kX6_sailedBy l ho hr) (C := RX6) (T := TX6) (N := 39) (ci := 6) rfl ho ⟨cdX6_sailedBy, mlX6_205, imX6_sailedBy, seX6_sailedBy, iniX6⟩ hvX6_sailedBy ⟨Nat.le_of_ble_eq_true rfl, Nat.le_of_ble_eq_true rfl⟩ hH hS hl rfl rfl (Nat.le_of_ble_eq_true rfl) ⟨Nat.le_refl 0, Nat.le_refl 0⟩ dX6_most_82 (fun H locs hH hS => ?_)
  refine lv_iload X.hx X.hb dX6_most_85 (lv_at hl 4 rfl) ?_
  refine lv_icmp_le (tgt := 98) X.hx X.hb dX6_most_87 (by decide) (fun c19 => ?_) (fun c19 => ?_)
  · have hf := it_p hf c19
    refine lv_iload X.hx X.hb dX6_most_98 (lv_at hl 4 rfl) ?_
    refine lv_istore (lv' := [(4, .int x4), (3, .int xs0), (0, .ref (gad G o 0)), (1, .int x1), (2, .int x2), (5, .int x5)]) X.hx X.hb dX6_most_100 hl (by decide) rfl (fun ls hl => ?_)
    refine lv_iinc (v := x5 + 1) (lv' := [(5, .int (x5 + 1)), (4, .int x4), (3, .int xs0), (0, .ref (gad G o 0)), (1, .int x1), (2, .int x2)]) X.hx X.hb dX6_most_102 hl (k := 5) rfl rfl (by decide) rfl (fun ls hl => ?_)
    refine lv_goto (tgt := 35) X.hx X.hb dX6_most_105 (by decide) ?_
    exact hk35 _ _ _ _ _ _  hf _ _ _ hH hS (lv_sub hl [3, 4, 5, 2, 1, 0] rfl)
  · have hf := it_n hf c19
    refine lv_aload_n X.hx X.hb dX6_most_90 rfl (lv_at hl 1 rfl) ?_
    refine lv_iload_n X.hx X.hb dX6_most_91 rfl (lv_at hl 2 rfl) ?_
    obtain ⟨r20, hr, hf⟩ := bd_e hf
    refine g_callVI (As := [.int x1]) (rest := []) X (kX6_sailedBy l ho hr) (C := RX6) (T := TX6) (N := 39) (ci := 6) rfl ho ⟨cdX6_sailedBy, mlX6_205, imX6_sailedBy, seX6_sailedBy, iniX6⟩ hvX6_sailedBy ⟨Nat.le_of_ble_eq_true rfl, Nat.le_of_ble_eq_true rfl⟩ hH hS hl rfl rfl (Nat.le_of_ble_eq_true rfl) ⟨Nat.le_refl 0, Nat.le_refl 0⟩ dX6_most_92 (fun H locs hH hS => ?_)
    refine lv_goto (tgt := 100) X.hx X.hb dX6_most_95 (by decide) ?_
    refine lv_istore (lv' := [(4, .int r20), (3, .int xs0), (0, .ref (gad G o 0)), (1, .int x1), (2, .int x2), (5, .int x5)]) X.hx X.hb dX6_most_100 hl (by decide) rfl (fun ls hl => ?_)
    refine lv_iinc (v := x5 + 1) (lv' := [(5, .int (x5 + 1)), (4, .int r20), (3, .int xs0), (0, .ref (gad G o 0)), (1, .int x1), (2, .int x2)]) X.hx X.hb dX6_most_102 hl (k := 5) rfl rfl (by decide) rfl (fun ls hl => ?_)
    refine lv_goto (tgt := 35) X.hx X.hb dX6_most_105 (by decide) ?_
    exact hk35 _ _ _ _ _ _  hf _ _ _ hH hS (lv_sub hl [3, 4, 5, 2, 1, 0] rfl)
set_option maxRecDepth 20000 in
set_option maxHeartbeats 4000000 in
theorem bX6_most_35 {p : Program} {l : Launch} {e : Env} {s : State} {m : MethodId} {args : Array Value} {below : List Frame} {meth : Method} {c : Code} {G : gG} (X : gX p s m args meth c yX6_most cX6_most 6 (some .int) RX6 G) {o : Nat} (ho : gsh G o = some 6)  {r : Int32} {σ' : Mem} : (∀ (n : Nat) (σ : Mem) (x1 : Int32) (x2 : Int32) (x3 : Int32) (x4 : Int32) (x5 : Int32), fX6_most_35 o n σ x1 x2 x3 x4 x5 = some (r, σ') → ∀ (H : Heap) (locs : List Loc) (ls : Array Slot), gH G σ H → va_S (gAA G) s.heap H locs → lv_has ls 6 [(0, .ref (gad G o 0)), (1, .int x1), (2, .int x2), (3, .int x3), (4, .int x4), (5, .int x5)] → WB p l e 2 50 s m args below meth c G (some (.int r)) σ' H locs (F0 m 35 ls [])) := by
  intro n
  induction n with
  | zero => intro σ x1 x2 x3 x4 x5 hf H locs ls hH hS hl; exact nomatch (show (none : Option (Int32 × Mem)) = some _ from hf)
  | succ n ih =>
    intro σ x1 x2 x3 x4 x5 hf H locs ls hH hS hl
    rw [fX6_most_35.eq_2] at hf
    refine lv_iload X.hx X.hb dX6_most_35 (lv_at hl 5 rfl) ?_
    refine lv_aload_n X.hx X.hb dX6_most_37 rfl (lv_at hl 0 rfl) ?_
    refine lv_aload_n X.hx X.hb dX6_most_38 rfl (lv_at hl 0 rfl) ?_
    refine gfX6_13 X hH ho dX6_most_39 ?_
    refine lv_aload_n X.hx X.hb dX6_most_42 rfl (lv_at hl 0 rfl) ?_
    refine gfX6_82 X hH ho dX6_most_43 ?_
    obtain ⟨r21, hr, hf⟩ := bd_e hf
    refine g_callVI (As := [.int (mI σ o 1), .int (mI σ o 3)]) (rest := [.int x5]) X (kX6_power l ho hr) (C := RX6) (T := TX6) (N := 39) (ci := 6) rfl ho ⟨cdX6_power, mlX6_195, imX6_power, seX6_power, iniX6⟩ hvX6_power ⟨Nat.le_of_ble_eq_true rfl, Nat.le_of_ble_eq_true rfl⟩ hH hS hl rfl rfl (Nat.le_of_ble_eq_true rfl) ⟨Nat.le_refl 0, Nat.le_refl 0⟩ dX6_most_46 (fun H locs hH hS => ?_)
    refine lv_icmp_ge (tgt := 108) X.hx X.hb dX6_most_49 (by decide) (fun c22 => ?_) (fun c22 => ?_)
    · have hf := it_p hf c22
      refine lv_aload_n X.hx X.hb dX6_most_108 rfl (lv_at hl 0 rfl) ?_
      refine lv_iload_n X.hx X.hb dX6_most_109 rfl (lv_at hl 3 rfl) ?_
      obtain ⟨σ23, hr, hf⟩ := bd_e hf
      refine g_callVV (As := [.int x3]) (rest := []) X (kX6_lays l ho hr) (C := RX6) (T := TX6) (N := 39) (ci := 6) rfl ho ⟨cdX6_lays, mlX6_199, imX6_lays, seX6_lays, iniX6⟩ hvX6_lays ⟨Nat.le_of_ble_eq_true rfl, Nat.le_of_ble_eq_true rfl⟩ hH hS hl rfl rfl (Nat.le_of_ble_eq_true rfl) ⟨Nat.le_refl 0, Nat.le_refl 0⟩ dX6_most_110 (fun H locs hH hS => ?_)
      refine lv_iload_n X.hx X.hb dX6_most_113 rfl (lv_at hl 2 rfl) ?_
      refine lv_bipush (v := -9) X.hx X.hb dX6_most_114 (by decide) ?_
      refine lv_icmp_ne (tgt := 124) X.hx X.hb dX6_most_116 (by decide) (fun c24 => ?_) (fun c24 => ?_)
      · have hf := it_n hf c24
        refine lv_aload_n X.hx X.hb dX6_most_124 rfl (lv_at hl 0 rfl) ?_
        refine gfX6_57 X hH ho dX6_most_125 ?_
        refine lv_iload_n X.hx X.hb dX6_most_128 rfl (lv_at hl 2 rfl) ?_
        obtain ⟨hg, hf⟩ := gd_e hf
        refine g_iald X hH ⟨_, ho, rfl⟩ hg dX6_most_129 ?_
        have e := so2 hf
        rw [e.2] at hH
        exact g_iret X hH hS rfl e.1 dX6_most_130
      · have hf := it_p hf c24
        refine lv_iload X.hx X.hb dX6_most_119 (lv_at hl 4 rfl) ?_
        refine lv_goto (tgt := 130) X.hx X.hb dX6_most_121 (by decide) ?_
        have e := so2 hf
        rw [e.2] at hH
        exact g_iret X hH hS rfl e.1 dX6_most_130
    · have hf := it_n hf c22
      refine lv_aload_n X.hx X.hb dX6_most_52 rfl (lv_at hl 0 rfl) ?_
      refine lv_iload X.hx X.hb dX6_most_53 (lv_at hl 5 rfl) ?_
      obtain ⟨σ25, hr, hf⟩ := bd_e hf
      refine g_callVV (As := [.int x5]) (rest := []) X (kX6_lays l ho hr) (C := RX6) (T := TX6) (N := 39) (ci := 6) rfl ho ⟨cdX6_lays, mlX6_199, imX6_lays, seX6_lays, iniX6⟩ hvX6_lays ⟨Nat.le_of_ble_eq_true rfl, Nat.le_of_ble_eq_true rfl⟩ hH hS hl rfl rfl (Nat.le_of_ble_eq_true rfl) ⟨Nat.le_refl 0, Nat.le_refl 0⟩ dX6_most_55 (fun H locs hH hS => ?_)
      refine lv_aload_n X.hx X.hb dX6_most_58 rfl (lv_at hl 0 rfl) ?_
      obtain ⟨r26, σ27, hr, hf⟩ := bd2_e hf
      refine g_callVI (As := []) (rest := []) X (kX6_goes l ho hr) (C := RX6) (T := TX6) (N := 39) (ci := 6) rfl ho ⟨cdX6_goes, mlX6_202, imX6_goes, seX6_goes, iniX6⟩ hvX6_goes ⟨Nat.le_of_ble_eq_true rfl, Nat.le_of_ble_eq_true rfl⟩ hH hS hl rfl rfl (Nat.le_of_ble_eq_true rfl) ⟨Nat.le_refl 0, Nat.le_refl 0⟩ dX6_most_59 (fun H locs hH hS => ?_)
      refine lv_pop X.hx X.hb dX6_most_62 rfl ?_
      refine lv_aload_n X.hx X.hb dX6_most_63 rfl (lv_at hl 0 rfl) ?_
      refine lv_iload_n X.hx X.hb dX6_most_64 rfl (lv_at hl 1 rfl) ?_
      obtain ⟨r28, hr, hf⟩ := bd_e hf
      refine g_callVI (As := [.int x1]) (rest := []) X (kX6_sailedBy l ho hr) (C := RX6) (T := TX6) (N := 39) (ci := 6) rfl ho ⟨cdX6_sailedBy, mlX6_205, imX6_sailedBy, seX6_sailedBy, iniX6⟩ hvX6_sailedBy ⟨Nat.le_of_ble_eq_true rfl, Nat.le_of_ble_eq_true rfl⟩ hH hS hl rfl rfl (Nat.le_of_ble_eq_true rfl) ⟨Nat.le_refl 0, Nat.le_refl 0⟩ dX6_most_65 (fun H locs hH hS => ?_)
      refine lv_iload X.hx X.hb dX6_most_68 (lv_at hl 4 rfl) ?_
      refine lv_icmp_le (tgt := 78) X.hx X.hb dX6_most_70 (by decide) (fun c29 => ?_) (fun c29 => ?_)
      · have hf := it_p hf c29
        refine lv_iload_n X.hx X.hb dX6_most_78 rfl (lv_at hl 3 rfl) ?_
        exact bX6_most_79 X  ho ih  _ _ _ _ _ _  hf _ _ _ hH hS (lv_sub hl [0, 1, 2, 4, 5] rfl)
      · have hf := it_n hf c29
        refine lv_iload X.hx X.hb dX6_most_73 (lv_at hl 5 rfl) ?_
        refine lv_goto (tgt := 79) X.hx X.hb dX6_most_75 (by decide) ?_
        exact bX6_most_79 X  ho ih  _ _ _ _ _ _  hf _ _ _ hH hS (lv_sub hl [0, 1, 2, 4, 5] rfl)
set_option maxRecDepth 20000 in
set_option maxHeartbeats 4000000 in
theorem kX6_most (l : Launch) {G : gG} {σ : Mem} {r : Int32} {σ' : Mem} {o : Nat} {x1 : Int32} {x2 : Int32} (ho : gsh G o = some 6)  (hf : fX6_most σ o x1 x2 = some (r, σ')) : CM l yX6_most cX6_most 6 (some .int) 2 50 G σ [.ref (gad G o 0), .int x1, .int x2] (some (.int r)) σ' := by
  refine CM.of (by decide) (Nat.le_of_ble_eq_true rfl) (fun p e s m below meth c ls X hH hl => ?_)
  have X : gX p s m _ meth c yX6_most cX6_most 6 (some .int) RX6 G := X
  have hS : va_S (gAA G) s.heap s.heap [] := va_S.rf
  have hl : lv_has ls 6 [(0, .ref (gad G o 0)), (1, .int x1), (2, .int x2)] := hl
  rw [fX6_most.eq_1] at hf
  refine lv_iload_n X.hx X.hb dX6_most_0 rfl (lv_at hl 1 rfl) ?_
  refine lv_iconst (v := 0) X.hx X.hb dX6_most_1 (by decide) ?_
  refine lv_sipush (v := 200) X.hx X.hb dX6_most_2 (by decide) ?_
  obtain ⟨r30, hr, hf⟩ := bd_e hf
  refine g_callSI (As := [.int x1, .int (0 : Int32), .int (200 : Int32)]) (rest := []) X (kX6_in l  hr) ⟨cdX6_in, mlX6_85, stX6_in, iniX6⟩ hsX6_in ⟨Nat.le_of_ble_eq_true rfl, Nat.le_of_ble_eq_true rfl⟩ hH hS hl rfl rfl (Nat.le_of_ble_eq_true rfl) ⟨Nat.le_refl 0, Nat.le_refl 0⟩ dX6_most_5 (fun H locs hH hS => ?_)
  refine lv_if_eq (tgt := 25) X.hx X.hb dX6_most_8 (by decide) (fun c31 => ?_) (fun c31 => ?_)
  · have hf := it_p hf c31
    refine lv_iconst (v := -1) X.hx X.hb dX6_most_25 (by decide) ?_
    have e := so2 hf
    rw [e.2] at hH
    exact g_iret X hH hS rfl e.1 dX6_most_26
  · have hf := it_n hf c31
    refine lv_iload_n X.hx X.hb dX6_most_11 rfl (lv_at hl 2 rfl) ?_
    refine lv_bipush (v := -9) X.hx X.hb dX6_most_12 (by decide) ?_
    refine lv_icmp_eq (tgt := 27) X.hx X.hb dX6_most_14 (by decide) (fun c32 => ?_) (fun c32 => ?_)
    · have hf := it_p hf c32
      refine lv_iconst (v := 0) X.hx X.hb dX6_most_27 (by decide) ?_
      refine lv_istore_n (lv' := [(3, .int (0 : Int32)), (0, .ref (gad G o 0)), (1, .int x1), (2, .int x2)]) X.hx X.hb dX6_most_28 rfl hl (by decide) rfl (fun ls hl => ?_)
      refine lv_iconst (v := -1) X.hx X.hb dX6_most_29 (by decide) ?_
      refine lv_istore (lv' := [(4, .int (-1 : Int32)), (3, .int (0 : Int32)), (0, .ref (gad G o 0)), (1, .int x1), (2, .int x2)]) X.hx X.hb dX6_most_30 hl (by decide) rfl (fun ls hl => ?_)
      refine lv_iconst (v := 0) X.hx X.hb dX6_most_32 (by decide) ?_
      refine lv_istore (lv' := [(5, .int (0 : Int32)), (4, .int (-1 : Int32)), (3, .int (0 : Int32)), (0, .ref (gad G o 0)), (1, .int x1), (2, .int x2)]) X.hx X.hb dX6_most_33 hl (by decide) rfl (fun ls hl => ?_)
      exact bX6_most_35 X  ho  _ _ _ _ _ _ _  hf _ _ _ hH hS (lv_sub hl [3, 4, 5, 2, 1, 0] rfl)
    · have hf := it_n hf c32
      refine lv_aload_n X.hx X.hb dX6_most_17 rfl (lv_at hl 0 rfl) ?_
      refine lv_iload_n X.hx X.hb dX6_most_18 rfl (lv_at hl 2 rfl) ?_
      obtain ⟨r33, hr, hf⟩ := bd_e hf
      refine g_callVI (As := [.int x2]) (rest := []) X (kX6_isTraveller l ho hr) (C := RX6) (T := TX6) (N := 39) (ci := 6) rfl ho ⟨cdX6_isTraveller, mlX6_158, imX6_isTraveller, seX6_isTraveller, iniX6⟩ hvX6_isTraveller ⟨Nat.le_of_ble_eq_true rfl, Nat.le_of_ble_eq_true rfl⟩ hH hS hl rfl rfl (Nat.le_of_ble_eq_true rfl) ⟨Nat.le_refl 0, Nat.le_refl 0⟩ dX6_most_19 (fun H locs hH hS => ?_)
      refine lv_if_ne (tgt := 27) X.hx X.hb dX6_most_22 (by decide) (fun c34 => ?_) (fun c34 => ?_)
      · have hf := it_n hf c34
        refine lv_iconst (v := 0) X.hx X.hb dX6_most_27 (by decide) ?_
        refine lv_istore_n (lv' := [(3, .int (0 : Int32)), (0, .ref (gad G o 0)), (1, .int x1), (2, .int x2)]) X.hx X.hb dX6_most_28 rfl hl (by decide) rfl (fun ls hl => ?_)
        refine lv_iconst (v := -1) X.hx X.hb dX6_most_29 (by decide) ?_
        refine lv_istore (lv' := [(4, .int (-1 : Int32)), (3, .int (0 : Int32)), (0, .ref (gad G o 0)), (1, .int x1), (2, .int x2)]) X.hx X.hb dX6_most_30 hl (by decide) rfl (fun ls hl => ?_)
        refine lv_iconst (v := 0) X.hx X.hb dX6_most_32 (by decide) ?_
        refine lv_istore (lv' := [(5, .int (0 : Int32)), (4, .int (-1 : Int32)), (3, .int (0 : Int32)), (0, .ref (gad G o 0)), (1, .int x1), (2, .int x2)]) X.hx X.hb dX6_most_33 hl (by decide) rfl (fun ls hl => ?_)
        exact bX6_most_35 X  ho  _ _ _ _ _ _ _  hf _ _ _ hH hS (lv_sub hl [3, 4, 5, 2, 1, 0] rfl)
      · have hf := it_p hf c34
        refine lv_iconst (v := -1) X.hx X.hb dX6_most_25 (by decide) ?_
        have e := so2 hf
        rw [e.2] at hH
        exact g_iret X hH hS rfl e.1 dX6_most_26
set_option maxRecDepth 20000 in
set_option maxHeartbeats 4000000 in
theorem bX6_late_34 {p : Program} {l : Launch} {e : Env} {s : State} {m : MethodId} {args : Array Value} {below : List Frame} {meth : Method} {c : Code} {G : gG} (X : gX p s m args meth c yX6_late cX6_late 4 (some .int) RX6 G) {o : Nat} (ho : gsh G o = some 6)  {σ : Mem} {r : Int32} {k6 : Int32 → Int32 → Int32 → Option Int32} (hk6 : (∀ (x1 : Int32) (x2 : Int32) (x3 : Int32), k6 x1 x2 x3 = some r → ∀ (H : Heap) (locs : List Loc) (ls : Array Slot), gH G σ H → va_S (gAA G) s.heap H locs → lv_has ls 4 [(0, .ref (gad G o 0)), (1, .int x1), (2, .int x2), (3, .int x3)] → WB p l e 0 0 s m args below meth c G (some (.int r)) σ H locs (F0 m 6 ls []))) : (∀ (x2 : Int32) (x3 : Int32) (xs0 : Int32), fX6_late_34 k6 σ o x2 x3 xs0 = some r → ∀ (H : Heap) (locs : List Loc) (ls : Array Slot), gH G σ H → va_S (gAA G) s.heap H locs → lv_has ls 4 [(0, .ref (gad G o 0)), (2, .int x2), (3, .int x3)] → WB p l e 0 0 s m args below meth c G (some (.int r)) σ H locs (F0 m 34 ls [.int xs0])) := by
  intro x2 x3 xs0 hf H locs ls hH hS hl
  rw [fX6_late_34.eq_1] at hf
  refine lv_istore_n (lv' := [(1, .int xs0), (0, .ref (gad G o 0)), (2, .int x2), (3, .int x3)]) X.hx X.hb dX6_late_34 rfl hl (by decide) rfl (fun ls hl => ?_)
  refine lv_iload_n X.hx X.hb dX6_late_35 rfl (lv_at hl 2 rfl) ?_
  refine lv_aload_n X.hx X.hb dX6_late_36 rfl (lv_at hl 1 rfl) ?_
  refine gfX6_66 X hH ho dX6_late_37 ?_
  refine lv_iload_n X.hx X.hb dX6_late_40 rfl (lv_at hl 3 rfl) ?_
  obtain ⟨hg, hf⟩ := gd_e hf
  refine g_iald X hH ⟨_, ho, rfl⟩ hg dX6_late_41 ?_
  refine lv_iadd X.hx X.hb dX6_late_42 ?_
  refine lv_istore_n (lv' := [(2, .int (x2 + (mA σ o 33 x3.toNatClampNeg))), (1, .int xs0), (0, .ref (gad G o 0)), (3, .int x3)]) X.hx X.hb dX6_late_43 rfl hl (by decide) rfl (fun ls hl => ?_)
  refine lv_iinc (v := x3 + 1) (lv' := [(3, .int (x3 + 1)), (2, .int (x2 + (mA σ o 33 x3.toNatClampNeg))), (1, .int xs0), (0, .ref (gad G o 0))]) X.hx X.hb dX6_late_44 hl (k := 3) rfl rfl (by decide) rfl (fun ls hl => ?_)
  refine lv_goto (tgt := 6) X.hx X.hb dX6_late_47 (by decide) ?_
  exact hk6 _ _ _  hf _ _ _ hH hS (lv_sub hl [3, 2, 1, 0] rfl)
set_option maxRecDepth 20000 in
set_option maxHeartbeats 4000000 in
theorem bX6_late_6 {p : Program} {l : Launch} {e : Env} {s : State} {m : MethodId} {args : Array Value} {below : List Frame} {meth : Method} {c : Code} {G : gG} (X : gX p s m args meth c yX6_late cX6_late 4 (some .int) RX6 G) {o : Nat} (ho : gsh G o = some 6)  {σ : Mem} {r : Int32} : (∀ (n : Nat) (x1 : Int32) (x2 : Int32) (x3 : Int32), fX6_late_6 σ o n x1 x2 x3 = some r → ∀ (H : Heap) (locs : List Loc) (ls : Array Slot), gH G σ H → va_S (gAA G) s.heap H locs → lv_has ls 4 [(0, .ref (gad G o 0)), (1, .int x1), (2, .int x2), (3, .int x3)] → WB p l e 0 0 s m args below meth c G (some (.int r)) σ H locs (F0 m 6 ls [])) := by
  intro n
  induction n with
  | zero => intro x1 x2 x3 hf H locs ls hH hS hl; exact nomatch (show (none : Option Int32) = some _ from hf)
  | succ n ih =>
    intro x1 x2 x3 hf H locs ls hH hS hl
    rw [fX6_late_6.eq_2] at hf
    refine lv_iload_n X.hx X.hb dX6_late_6 rfl (lv_at hl 3 rfl) ?_
    refine lv_aload_n X.hx X.hb dX6_late_7 rfl (lv_at hl 0 rfl) ?_
    refine gfX6_82 X hH ho dX6_late_8 ?_
    refine lv_icmp_ge (tgt := 50) X.hx X.hb dX6_late_11 (by decide) (fun c3 => ?_) (fun c3 => ?_)
    · have hf := it_p hf c3
      refine lv_sipush (v := 10000) X.hx X.hb dX6_late_50 (by decide) ?_
      refine lv_iload_n X.hx X.hb dX6_late_53 rfl (lv_at hl 1 rfl) ?_
      refine lv_imul X.hx X.hb dX6_late_54 ?_
      refine lv_iload_n X.hx X.hb dX6_late_55 rfl (lv_at hl 2 rfl) ?_
      refine lv_iadd X.hx X.hb dX6_late_56 ?_
      exact g_iret X hH hS rfl (so1 hf) dX6_late_57
    · have hf := it_n hf c3
      refine lv_aload_n X.hx X.hb dX6_late_14 rfl (lv_at hl 0 rfl) ?_
      refine gfX6_66 X hH ho dX6_late_15 ?_
      refine lv_iload_n X.hx X.hb dX6_late_18 rfl (lv_at hl 3 rfl) ?_
      obtain ⟨hg, hf⟩ := gd_e hf
      refine g_iald X hH ⟨_, ho, rfl⟩ hg dX6_late_19 ?_
      refine lv_iload_n X.hx X.hb dX6_late_20 rfl (lv_at hl 1 rfl) ?_
      refine lv_icmp_le (tgt := 33) X.hx X.hb dX6_late_21 (by decide) (fun c4 => ?_) (fun c4 => ?_)
      · have hf := it_p hf c4
        refine lv_iload_n X.hx X.hb dX6_late_33 rfl (lv_at hl 1 rfl) ?_
        exact bX6_late_34 X  ho ih  _ _ _  hf _ _ _ hH hS (lv_sub hl [0, 2, 3] rfl)
      · have hf := it_n hf c4
        refine lv_aload_n X.hx X.hb dX6_late_24 rfl (lv_at hl 0 rfl) ?_
        refine gfX6_66 X hH ho dX6_late_25 ?_
        refine lv_iload_n X.hx X.hb dX6_late_28 rfl (lv_at hl 3 rfl) ?_
        obtain ⟨hg, hf⟩ := gd_e hf
        refine g_iald X hH ⟨_, ho, rfl⟩ hg dX6_late_29 ?_
        refine lv_goto (tgt := 34) X.hx X.hb dX6_late_30 (by decide) ?_
        exact bX6_late_34 X  ho ih  _ _ _  hf _ _ _ hH hS (lv_sub hl [0, 2, 3] rfl)
set_option maxRecDepth 20000 in
set_option maxHeartbeats 4000000 in
theorem kX6_late (l : Launch) {G : gG} {σ : Mem} {r : Int32} {o : Nat} (ho : gsh G o = some 6)  (hf : fX6_late σ o = some r) : CM l yX6_late cX6_late 4 (some .int) 0 0 G σ [.ref (gad G o 0)] (some (.int r)) σ := by
  refine CM.of (by decide) (Nat.le_of_ble_eq_true rfl) (fun p e s m below meth c ls X hH hl => ?_)
  have X : gX p s m _ meth c yX6_late cX6_late 4 (some .int) RX6 G := X
  have hS : va_S (gAA G) s.heap s.heap [] := va_S.rf
  have hl : lv_has ls 4 [(0, .ref (gad G o 0))] := hl
  rw [fX6_late.eq_1] at hf
  refine lv_iconst (v := 0) X.hx X.hb dX6_late_0 (by decide) ?_
  refine lv_istore_n (lv' := [(1, .int (0 : Int32)), (0, .ref (gad G o 0))]) X.hx X.hb dX6_late_1 rfl hl (by decide) rfl (fun ls hl => ?_)
  refine lv_iconst (v := 0) X.hx X.hb dX6_late_2 (by decide) ?_
  refine lv_istore_n (lv' := [(2, .int (0 : Int32)), (1, .int (0 : Int32)), (0, .ref (gad G o 0))]) X.hx X.hb dX6_late_3 rfl hl (by decide) rfl (fun ls hl => ?_)
  refine lv_iconst (v := 0) X.hx X.hb dX6_late_4 (by decide) ?_
  refine lv_istore_n (lv' := [(3, .int (0 : Int32)), (2, .int (0 : Int32)), (1, .int (0 : Int32)), (0, .ref (gad G o 0))]) X.hx X.hb dX6_late_5 rfl hl (by decide) rfl (fun ls hl => ?_)
  exact bX6_late_6 X  ho  _ _ _ _  hf _ _ _ hH hS (lv_sub hl [3, 2, 1, 0] rfl)
set_option maxRecDepth 20000 in
set_option maxHeartbeats 4000000 in
theorem bX6_soonest_66 {p : Program} {l : Launch} {e : Env} {s : State} {m : MethodId} {args : Array Value} {below : List Frame} {meth : Method} {c : Code} {G : gG} (X : gX p s m args meth c yX6_soonest cX6_soonest 5 (some .int) RX6 G) {o : Nat} (ho : gsh G o = some 6)  {r : Int32} {σ' : Mem} {k24 : Mem → Int32 → Int32 → Int32 → Int32 → Option (Int32 × Mem)} (hk24 : (∀ (σ : Mem) (x1 : Int32) (x2 : Int32) (x3 : Int32) (x4 : Int32), k24 σ x1 x2 x3 x4 = some (r, σ') → ∀ (H : Heap) (locs : List Loc) (ls : Array Slot), gH G σ H → va_S (gAA G) s.heap H locs → lv_has ls 5 [(0, .ref (gad G o 0)), (1, .int x1), (2, .int x2), (3, .int x3), (4, .int x4)] → WB p l e 2 50 s m args below meth c G (some (.int r)) σ' H locs (F0 m 24 ls []))) : (∀ (σ : Mem) (x1 : Int32) (x3 : Int32) (x4 : Int32) (xs0 : Int32), fX6_soonest_66 k24 o σ x1 x3 x4 xs0 = some (r, σ') → ∀ (H : Heap) (locs : List Loc) (ls : Array Slot), gH G σ H → va_S (gAA G) s.heap H locs → lv_has ls 5 [(0, .ref (gad G o 0)), (1, .int x1), (3, .int x3), (4, .int x4)] → WB p l e 2 50 s m args below meth c G (some (.int r)) σ' H locs (F0 m 66 ls [.int xs0])) := by
  intro σ x1 x3 x4 xs0 hf H locs ls hH hS hl
  rw [fX6_soonest_66.eq_1] at hf
  refine lv_istore_n (lv' := [(2, .int xs0), (0, .ref (gad G o 0)), (1, .int x1), (3, .int x3), (4, .int x4)]) X.hx X.hb dX6_soonest_66 rfl hl (by decide) rfl (fun ls hl => ?_)
  refine lv_aload_n X.hx X.hb dX6_soonest_67 rfl (lv_at hl 1 rfl) ?_
  obtain ⟨r16, hr, hf⟩ := bd_e hf
  refine g_callVI (As := []) (rest := []) X (kX6_late l ho hr) (C := RX6) (T := TX6) (N := 39) (ci := 6) rfl ho ⟨cdX6_late, mlX6_209, imX6_late, seX6_late, iniX6⟩ hvX6_late ⟨Nat.le_of_ble_eq_true rfl, Nat.le_of_ble_eq_true rfl⟩ hH hS hl rfl rfl (Nat.le_of_ble_eq_true rfl) ⟨Nat.le_refl 0, Nat.le_refl 0⟩ dX6_soonest_68 (fun H locs hH hS => ?_)
  refine lv_iload_n X.hx X.hb dX6_soonest_71 rfl (lv_at hl 3 rfl) ?_
  refine lv_icmp_ge (tgt := 82) X.hx X.hb dX6_soonest_72 (by decide) (fun c17 => ?_) (fun c17 => ?_)
  · have hf := it_p hf c17
    refine lv_iload_n X.hx X.hb dX6_soonest_82 rfl (lv_at hl 3 rfl) ?_
    refine lv_istore_n (lv' := [(3, .int x3), (2, .int xs0), (0, .ref (gad G o 0)), (1, .int x1), (4, .int x4)]) X.hx X.hb dX6_soonest_83 rfl hl (by decide) rfl (fun ls hl => ?_)
    refine lv_iinc (v := x4 + 1) (lv' := [(4, .int (x4 + 1)), (3, .int x3), (2, .int xs0), (0, .ref (gad G o 0)), (1, .int x1)]) X.hx X.hb dX6_soonest_84 hl (k := 4) rfl rfl (by decide) rfl (fun ls hl => ?_)
    refine lv_goto (tgt := 24) X.hx X.hb dX6_soonest_87 (by decide) ?_
    exact hk24 _ _ _ _ _  hf _ _ _ hH hS (lv_sub hl [3, 4, 2, 1, 0] rfl)
  · have hf := it_n hf c17
    refine lv_aload_n X.hx X.hb dX6_soonest_75 rfl (lv_at hl 1 rfl) ?_
    obtain ⟨r18, hr, hf⟩ := bd_e hf
    refine g_callVI (As := []) (rest := []) X (kX6_late l ho hr) (C := RX6) (T := TX6) (N := 39) (ci := 6) rfl ho ⟨cdX6_late, mlX6_209, imX6_late, seX6_late, iniX6⟩ hvX6_late ⟨Nat.le_of_ble_eq_true rfl, Nat.le_of_ble_eq_true rfl⟩ hH hS hl rfl rfl (Nat.le_of_ble_eq_true rfl) ⟨Nat.le_refl 0, Nat.le_refl 0⟩ dX6_soonest_76 (fun H locs hH hS => ?_)
    refine lv_goto (tgt := 83) X.hx X.hb dX6_soonest_79 (by decide) ?_
    refine lv_istore_n (lv' := [(3, .int r18), (2, .int xs0), (0, .ref (gad G o 0)), (1, .int x1), (4, .int x4)]) X.hx X.hb dX6_soonest_83 rfl hl (by decide) rfl (fun ls hl => ?_)
    refine lv_iinc (v := x4 + 1) (lv' := [(4, .int (x4 + 1)), (3, .int r18), (2, .int xs0), (0, .ref (gad G o 0)), (1, .int x1)]) X.hx X.hb dX6_soonest_84 hl (k := 4) rfl rfl (by decide) rfl (fun ls hl => ?_)
    refine lv_goto (tgt := 24) X.hx X.hb dX6_soonest_87 (by decide) ?_
    exact hk24 _ _ _ _ _  hf _ _ _ hH hS (lv_sub hl [3, 4, 2, 1, 0] rfl)
set_option maxRecDepth 20000 in
set_option maxHeartbeats 4000000 in
theorem bX6_soonest_24 {p : Program} {l : Launch} {e : Env} {s : State} {m : MethodId} {args : Array Value} {below : List Frame} {meth : Method} {c : Code} {G : gG} (X : gX p s m args meth c yX6_soonest cX6_soonest 5 (some .int) RX6 G) {o : Nat} (ho : gsh G o = some 6)  {r : Int32} {σ' : Mem} : (∀ (n : Nat) (σ : Mem) (x1 : Int32) (x2 : Int32) (x3 : Int32) (x4 : Int32), fX6_soonest_24 o n σ x1 x2 x3 x4 = some (r, σ') → ∀ (H : Heap) (locs : List Loc) (ls : Array Slot), gH G σ H → va_S (gAA G) s.heap H locs → lv_has ls 5 [(0, .ref (gad G o 0)), (1, .int x1), (2, .int x2), (3, .int x3), (4, .int x4)] → WB p l e 2 50 s m args below meth c G (some (.int r)) σ' H locs (F0 m 24 ls [])) := by
  intro n
  induction n with
  | zero => intro σ x1 x2 x3 x4 hf H locs ls hH hS hl; exact nomatch (show (none : Option (Int32 × Mem)) = some _ from hf)
  | succ n ih =>
    intro σ x1 x2 x3 x4 hf H locs ls hH hS hl
    rw [fX6_soonest_24.eq_2] at hf
    refine lv_iload X.hx X.hb dX6_soonest_24 (lv_at hl 4 rfl) ?_
    refine lv_aload_n X.hx X.hb dX6_soonest_26 rfl (lv_at hl 0 rfl) ?_
    refine lv_aload_n X.hx X.hb dX6_soonest_27 rfl (lv_at hl 0 rfl) ?_
    refine gfX6_13 X hH ho dX6_soonest_28 ?_
    refine lv_aload_n X.hx X.hb dX6_soonest_31 rfl (lv_at hl 0 rfl) ?_
    refine gfX6_82 X hH ho dX6_soonest_32 ?_
    obtain ⟨r19, hr, hf⟩ := bd_e hf
    refine g_callVI (As := [.int (mI σ o 1), .int (mI σ o 3)]) (rest := [.int x4]) X (kX6_power l ho hr) (C := RX6) (T := TX6) (N := 39) (ci := 6) rfl ho ⟨cdX6_power, mlX6_195, imX6_power, seX6_power, iniX6⟩ hvX6_power ⟨Nat.le_of_ble_eq_true rfl, Nat.le_of_ble_eq_true rfl⟩ hH hS hl rfl rfl (Nat.le_of_ble_eq_true rfl) ⟨Nat.le_refl 0, Nat.le_refl 0⟩ dX6_soonest_35 (fun H locs hH hS => ?_)
    refine lv_icmp_ge (tgt := 90) X.hx X.hb dX6_soonest_38 (by decide) (fun c20 => ?_) (fun c20 => ?_)
    · have hf := it_p hf c20
      refine lv_aload_n X.hx X.hb dX6_soonest_90 rfl (lv_at hl 0 rfl) ?_
      refine lv_iload_n X.hx X.hb dX6_soonest_91 rfl (lv_at hl 2 rfl) ?_
      obtain ⟨σ21, hr, hf⟩ := bd_e hf
      refine g_callVV (As := [.int x2]) (rest := []) X (kX6_lays l ho hr) (C := RX6) (T := TX6) (N := 39) (ci := 6) rfl ho ⟨cdX6_lays, mlX6_199, imX6_lays, seX6_lays, iniX6⟩ hvX6_lays ⟨Nat.le_of_ble_eq_true rfl, Nat.le_of_ble_eq_true rfl⟩ hH hS hl rfl rfl (Nat.le_of_ble_eq_true rfl) ⟨Nat.le_refl 0, Nat.le_refl 0⟩ dX6_soonest_92 (fun H locs hH hS => ?_)
      refine lv_iload_n X.hx X.hb dX6_soonest_95 rfl (lv_at hl 1 rfl) ?_
      refine lv_bipush (v := -9) X.hx X.hb dX6_soonest_96 (by decide) ?_
      refine lv_icmp_ne (tgt := 109) X.hx X.hb dX6_soonest_98 (by decide) (fun c22 => ?_) (fun c22 => ?_)
      · have hf := it_n hf c22
        refine lv_aload_n X.hx X.hb dX6_soonest_109 rfl (lv_at hl 0 rfl) ?_
        refine gfX6_57 X hH ho dX6_soonest_110 ?_
        refine lv_iload_n X.hx X.hb dX6_soonest_113 rfl (lv_at hl 1 rfl) ?_
        obtain ⟨hg, hf⟩ := gd_e hf
        refine g_iald X hH ⟨_, ho, rfl⟩ hg dX6_soonest_114 ?_
        have e := so2 hf
        rw [e.2] at hH
        exact g_iret X hH hS rfl e.1 dX6_soonest_115
      · have hf := it_p hf c22
        refine lv_iload_n X.hx X.hb dX6_soonest_101 rfl (lv_at hl 3 rfl) ?_
        refine lv_sipush (v := 10000) X.hx X.hb dX6_soonest_102 (by decide) ?_
        refine lv_idiv X.hx X.hb dX6_soonest_105 (by decide) ?_
        refine lv_goto (tgt := 115) X.hx X.hb dX6_soonest_106 (by decide) ?_
        have e := so2 hf
        rw [e.2] at hH
        exact g_iret X hH hS rfl e.1 dX6_soonest_115
    · have hf := it_n hf c20
      refine lv_aload_n X.hx X.hb dX6_soonest_41 rfl (lv_at hl 0 rfl) ?_
      refine lv_iload X.hx X.hb dX6_soonest_42 (lv_at hl 4 rfl) ?_
      obtain ⟨σ23, hr, hf⟩ := bd_e hf
      refine g_callVV (As := [.int x4]) (rest := []) X (kX6_lays l ho hr) (C := RX6) (T := TX6) (N := 39) (ci := 6) rfl ho ⟨cdX6_lays, mlX6_199, imX6_lays, seX6_lays, iniX6⟩ hvX6_lays ⟨Nat.le_of_ble_eq_true rfl, Nat.le_of_ble_eq_true rfl⟩ hH hS hl rfl rfl (Nat.le_of_ble_eq_true rfl) ⟨Nat.le_refl 0, Nat.le_refl 0⟩ dX6_soonest_44 (fun H locs hH hS => ?_)
      refine lv_aload_n X.hx X.hb dX6_soonest_47 rfl (lv_at hl 0 rfl) ?_
      obtain ⟨r24, σ25, hr, hf⟩ := bd2_e hf
      refine g_callVI (As := []) (rest := []) X (kX6_goes l ho hr) (C := RX6) (T := TX6) (N := 39) (ci := 6) rfl ho ⟨cdX6_goes, mlX6_202, imX6_goes, seX6_goes, iniX6⟩ hvX6_goes ⟨Nat.le_of_ble_eq_true rfl, Nat.le_of_ble_eq_true rfl⟩ hH hS hl rfl rfl (Nat.le_of_ble_eq_true rfl) ⟨Nat.le_refl 0, Nat.le_refl 0⟩ dX6_soonest_48 (fun H locs hH hS => ?_)
      refine lv_pop X.hx X.hb dX6_soonest_51 rfl ?_
      refine lv_aload_n X.hx X.hb dX6_soonest_52 rfl (lv_at hl 0 rfl) ?_
      obtain ⟨r26, hr, hf⟩ := bd_e hf
      refine g_callVI (As := []) (rest := []) X (kX6_late l ho hr) (C := RX6) (T := TX6) (N := 39) (ci := 6) rfl ho ⟨cdX6_late, mlX6_209, imX6_late, seX6_late, iniX6⟩ hvX6_late ⟨Nat.le_of_ble_eq_true rfl, Nat.le_of_ble_eq_true rfl⟩ hH hS hl rfl rfl (Nat.le_of_ble_eq_true rfl) ⟨Nat.le_refl 0, Nat.le_refl 0⟩ dX6_soonest_53 (fun H locs hH hS => ?_)
      refine lv_iload_n X.hx X.hb dX6_soonest_56 rfl (lv_at hl 3 rfl) ?_
      refine lv_icmp_ge (tgt := 65) X.hx X.hb dX6_soonest_57 (by decide) (fun c27 => ?_) (fun c27 => ?_)
      · have hf := it_p hf c27
        refine lv_iload_n X.hx X.hb dX6_soonest_65 rfl (lv_at hl 2 rfl) ?_
        exact bX6_soonest_66 X  ho ih  _ _ _ _ _  hf _ _ _ hH hS (lv_sub hl [0, 1, 3, 4] rfl)
      · have hf := it_n hf c27
        refine lv_iload X.hx X.hb dX6_soonest_60 (lv_at hl 4 rfl) ?_
        refine lv_goto (tgt := 66) X.hx X.hb dX6_soonest_62 (by decide) ?_
        exact bX6_soonest_66 X  ho ih  _ _ _ _ _  hf _ _ _ hH hS (lv_sub hl [0, 1, 3, 4] rfl)
set_option maxRecDepth 20000 in
set_option maxHeartbeats 4000000 in
theorem kX6_soonest (l : Launch) {G : gG} {σ : Mem} {r : Int32} {σ' : Mem} {o : Nat} {x1 : Int32} (ho : gsh G o = some 6)  (hf : fX6_soonest σ o x1 = some (r, σ')) : CM l yX6_soonest cX6_soonest 5 (some .int) 2 50 G σ [.ref (gad G o 0), .int x1] (some (.int r)) σ' := by
  refine CM.of (by decide) (Nat.le_of_ble_eq_true rfl) (fun p e s m below meth c ls X hH hl => ?_)
  have X : gX p s m _ meth c yX6_soonest cX6_soonest 5 (some .int) RX6 G := X
  have hS : va_S (gAA G) s.heap s.heap [] := va_S.rf
  have hl : lv_has ls 5 [(0, .ref (gad G o 0)), (1, .int x1)] := hl
  rw [fX6_soonest.eq_1] at hf
  refine lv_iload_n X.hx X.hb dX6_soonest_0 rfl (lv_at hl 1 rfl) ?_
  refine lv_bipush (v := -9) X.hx X.hb dX6_soonest_1 (by decide) ?_
  refine lv_icmp_eq (tgt := 16) X.hx X.hb dX6_soonest_3 (by decide) (fun c28 => ?_) (fun c28 => ?_)
  · have hf := it_p hf c28
    refine lv_iconst (v := 0) X.hx X.hb dX6_soonest_16 (by decide) ?_
    refine lv_istore_n (lv' := [(2, .int (0 : Int32)), (0, .ref (gad G o 0)), (1, .int x1)]) X.hx X.hb dX6_soonest_17 rfl hl (by decide) rfl (fun ls hl => ?_)
    refine lv_ldc X.hx X.hb X.hown (X.w kcX6_208) dX6_soonest_18 ?_
    refine lv_istore_n (lv' := [(3, .int (1000000000 : Int32)), (2, .int (0 : Int32)), (0, .ref (gad G o 0)), (1, .int x1)]) X.hx X.hb dX6_soonest_20 rfl hl (by decide) rfl (fun ls hl => ?_)
    refine lv_iconst (v := 0) X.hx X.hb dX6_soonest_21 (by decide) ?_
    refine lv_istore (lv' := [(4, .int (0 : Int32)), (3, .int (1000000000 : Int32)), (2, .int (0 : Int32)), (0, .ref (gad G o 0)), (1, .int x1)]) X.hx X.hb dX6_soonest_22 hl (by decide) rfl (fun ls hl => ?_)
    exact bX6_soonest_24 X  ho  _ _ _ _ _ _  hf _ _ _ hH hS (lv_sub hl [3, 4, 2, 1, 0] rfl)
  · have hf := it_n hf c28
    refine lv_aload_n X.hx X.hb dX6_soonest_6 rfl (lv_at hl 0 rfl) ?_
    refine lv_iload_n X.hx X.hb dX6_soonest_7 rfl (lv_at hl 1 rfl) ?_
    obtain ⟨r29, hr, hf⟩ := bd_e hf
    refine g_callVI (As := [.int x1]) (rest := []) X (kX6_isTraveller l ho hr) (C := RX6) (T := TX6) (N := 39) (ci := 6) rfl ho ⟨cdX6_isTraveller, mlX6_158, imX6_isTraveller, seX6_isTraveller, iniX6⟩ hvX6_isTraveller ⟨Nat.le_of_ble_eq_true rfl, Nat.le_of_ble_eq_true rfl⟩ hH hS hl rfl rfl (Nat.le_of_ble_eq_true rfl) ⟨Nat.le_refl 0, Nat.le_refl 0⟩ dX6_soonest_8 (fun H locs hH hS => ?_)
    refine lv_if_ne (tgt := 16) X.hx X.hb dX6_soonest_11 (by decide) (fun c30 => ?_) (fun c30 => ?_)
    · have hf := it_n hf c30
      refine lv_iconst (v := 0) X.hx X.hb dX6_soonest_16 (by decide) ?_
      refine lv_istore_n (lv' := [(2, .int (0 : Int32)), (0, .ref (gad G o 0)), (1, .int x1)]) X.hx X.hb dX6_soonest_17 rfl hl (by decide) rfl (fun ls hl => ?_)
      refine lv_ldc X.hx X.hb X.hown (X.w kcX6_208) dX6_soonest_18 ?_
      refine lv_istore_n (lv' := [(3, .int (1000000000 : Int32)), (2, .int (0 : Int32)), (0, .ref (gad G o 0)), (1, .int x1)]) X.hx X.hb dX6_soonest_20 rfl hl (by decide) rfl (fun ls hl => ?_)
      refine lv_iconst (v := 0) X.hx X.hb dX6_soonest_21 (by decide) ?_
      refine lv_istore (lv' := [(4, .int (0 : Int32)), (3, .int (1000000000 : Int32)), (2, .int (0 : Int32)), (0, .ref (gad G o 0)), (1, .int x1)]) X.hx X.hb dX6_soonest_22 hl (by decide) rfl (fun ls hl => ?_)
      exact bX6_soonest_24 X  ho  _ _ _ _ _ _  hf _ _ _ hH hS (lv_sub hl [3, 4, 2, 1, 0] rfl)
    · have hf := it_p hf c30
      refine lv_iconst (v := -1) X.hx X.hb dX6_soonest_14 (by decide) ?_
      have e := so2 hf
      rw [e.2] at hH
      exact g_iret X hH hS rfl e.1 dX6_soonest_15
set_option maxRecDepth 20000 in
set_option maxHeartbeats 4000000 in
theorem bX6_plan_41 {p : Program} {l : Launch} {e : Env} {s : State} {m : MethodId} {args : Array Value} {below : List Frame} {meth : Method} {c : Code} {G : gG} (X : gX p s m args meth c yX6_plan cX6_plan 5 (some .int) RX6 G) {o : Nat} (ho : gsh G o = some 6)  {r : Int32} {σ' : Mem} : (∀ (n : Nat) (σ : Mem) (x2 : Int32) (x3 : Int32) (x4 : Int32), fX6_plan_41 o n σ x2 x3 x4 = some (r, σ') → ∀ (H : Heap) (locs : List Loc) (ls : Array Slot), gH G σ H → va_S (gAA G) s.heap H locs → lv_has ls 5 [(0, .ref (gad G o 0)), (2, .int x2), (3, .int x3), (4, .int x4)] → WB p l e 2 50 s m args below meth c G (some (.int r)) σ' H locs (F0 m 41 ls [])) := by
  intro n
  induction n with
  | zero => intro σ x2 x3 x4 hf H locs ls hH hS hl; exact nomatch (show (none : Option (Int32 × Mem)) = some _ from hf)
  | succ n ih =>
    intro σ x2 x3 x4 hf H locs ls hH hS hl
    rw [fX6_plan_41.eq_2] at hf
    refine lv_iload X.hx X.hb dX6_plan_41 (lv_at hl 3 rfl) ?_
    refine lv_aload_n X.hx X.hb dX6_plan_43 rfl (lv_at hl 0 rfl) ?_
    refine gfX6_82 X hH ho dX6_plan_44 ?_
    refine lv_icmp_ge (tgt := 88) X.hx X.hb dX6_plan_47 (by decide) (fun c14 => ?_) (fun c14 => ?_)
    · have hf := it_p hf c14
      refine lv_aload_n X.hx X.hb dX6_plan_88 rfl (lv_at hl 0 rfl) ?_
      obtain ⟨r15, σ16, hr, hf⟩ := bd2_e hf
      refine g_callVI (As := []) (rest := []) X (kX6_goes l ho hr) (C := RX6) (T := TX6) (N := 39) (ci := 6) rfl ho ⟨cdX6_goes, mlX6_202, imX6_goes, seX6_goes, iniX6⟩ hvX6_goes ⟨Nat.le_of_ble_eq_true rfl, Nat.le_of_ble_eq_true rfl⟩ hH hS hl rfl rfl (Nat.le_of_ble_eq_true rfl) ⟨Nat.le_refl 0, Nat.le_refl 0⟩ dX6_plan_89 (fun H locs hH hS => ?_)
      refine lv_istore (lv' := [(4, .int r15), (0, .ref (gad G o 0)), (2, .int x2), (3, .int x3)]) X.hx X.hb dX6_plan_92 hl (by decide) rfl (fun ls hl => ?_)
      refine lv_iload_n X.hx X.hb dX6_plan_94 rfl (lv_at hl 2 rfl) ?_
      refine lv_bipush (v := -9) X.hx X.hb dX6_plan_95 (by decide) ?_
      refine lv_icmp_ne (tgt := 105) X.hx X.hb dX6_plan_97 (by decide) (fun c17 => ?_) (fun c17 => ?_)
      · have hf := it_n hf c17
        refine lv_aload_n X.hx X.hb dX6_plan_105 rfl (lv_at hl 1 rfl) ?_
        refine gfX6_66 X hH ho dX6_plan_106 ?_
        refine lv_iload_n X.hx X.hb dX6_plan_109 rfl (lv_at hl 2 rfl) ?_
        obtain ⟨hg, hf⟩ := gd_e hf
        refine g_iald X hH ⟨_, ho, rfl⟩ hg dX6_plan_110 ?_
        have e := so2 hf
        rw [e.2] at hH
        exact g_iret X hH hS rfl e.1 dX6_plan_111
      · have hf := it_p hf c17
        refine lv_iload X.hx X.hb dX6_plan_100 (lv_at hl 0 rfl) ?_
        refine lv_goto (tgt := 111) X.hx X.hb dX6_plan_102 (by decide) ?_
        have e := so2 hf
        rw [e.2] at hH
        exact g_iret X hH hS rfl e.1 dX6_plan_111
    · have hf := it_n hf c14
      refine lv_aload_n X.hx X.hb dX6_plan_50 rfl (lv_at hl 0 rfl) ?_
      refine gfX6_57 X hH ho dX6_plan_51 ?_
      refine lv_iload X.hx X.hb dX6_plan_54 (lv_at hl 3 rfl) ?_
      refine lv_iload_n X.hx X.hb dX6_plan_56 rfl (lv_at hl 2 rfl) ?_
      refine lv_bipush (v := 10) X.hx X.hb dX6_plan_57 (by decide) ?_
      refine lv_irem X.hx X.hb dX6_plan_59 (by decide) ?_
      obtain ⟨hg, hf⟩ := gd_e hf
      refine g_iast X hH hS ⟨_, ho, rfl⟩ hg dX6_plan_60 (fun H locs hH hS => ?_)
      obtain ⟨σ18, he, hf⟩ := stp_e hf
      rw [← he] at hH
      clear he
      refine lv_aload_n X.hx X.hb dX6_plan_61 rfl (lv_at hl 0 rfl) ?_
      refine lv_aload_n X.hx X.hb dX6_plan_62 rfl (lv_at hl 0 rfl) ?_
      refine gfX6_57 X hH ho dX6_plan_63 ?_
      refine lv_iload X.hx X.hb dX6_plan_66 (lv_at hl 3 rfl) ?_
      obtain ⟨hg, hf⟩ := gd_e hf
      refine g_iald X hH ⟨_, ho, rfl⟩ hg dX6_plan_68 ?_
      obtain ⟨r19, hr, hf⟩ := bd_e hf
      refine g_callVI (As := [.int (mA σ18 o 30 x4.toNatClampNeg)]) (rest := []) X (kX6_isRow l ho hr) (C := RX6) (T := TX6) (N := 39) (ci := 6) rfl ho ⟨cdX6_isRow, mlX6_178, imX6_isRow, seX6_isRow, iniX6⟩ hvX6_isRow ⟨Nat.le_of_ble_eq_true rfl, Nat.le_of_ble_eq_true rfl⟩ hH hS hl rfl rfl (Nat.le_of_ble_eq_true rfl) ⟨Nat.le_refl 0, Nat.le_refl 0⟩ dX6_plan_69 (fun H locs hH hS => ?_)
      refine lv_if_ne (tgt := 77) X.hx X.hb dX6_plan_72 (by decide) (fun c20 => ?_) (fun c20 => ?_)
      · have hf := it_n hf c20
        refine lv_iload_n X.hx X.hb dX6_plan_77 rfl (lv_at hl 2 rfl) ?_
        refine lv_bipush (v := 10) X.hx X.hb dX6_plan_78 (by decide) ?_
        refine lv_idiv X.hx X.hb dX6_plan_80 (by decide) ?_
        refine lv_istore_n (lv' := [(3, .int (x3 / (10 : Int32))), (0, .ref (gad G o 0)), (2, .int x2), (4, .int x4)]) X.hx X.hb dX6_plan_81 rfl hl (by decide) rfl (fun ls hl => ?_)
        refine lv_iinc (v := x4 + 1) (lv' := [(4, .int (x4 + 1)), (3, .int (x3 / (10 : Int32))), (0, .ref (gad G o 0)), (2, .int x2)]) X.hx X.hb dX6_plan_82 hl (k := 3) rfl rfl (by decide) rfl (fun ls hl => ?_)
        refine lv_goto (tgt := 41) X.hx X.hb dX6_plan_85 (by decide) ?_
        exact ih _ _ _ _  hf _ _ _ hH hS (lv_sub hl [2, 3, 1, 0] rfl)
      · have hf := it_p hf c20
        refine lv_iconst (v := -1) X.hx X.hb dX6_plan_75 (by decide) ?_
        have e := so2 hf
        rw [e.2] at hH
        exact g_iret X hH hS rfl e.1 dX6_plan_76
set_option maxRecDepth 20000 in
set_option maxHeartbeats 4000000 in
theorem bX6_plan_14 {p : Program} {l : Launch} {e : Env} {s : State} {m : MethodId} {args : Array Value} {below : List Frame} {meth : Method} {c : Code} {G : gG} (X : gX p s m args meth c yX6_plan cX6_plan 5 (some .int) RX6 G) {o : Nat} (ho : gsh G o = some 6)  {r : Int32} {σ' : Mem} : (∀ (σ : Mem) (x1 : Int32) (x2 : Int32), fX6_plan_14 o σ x1 x2 = some (r, σ') → ∀ (H : Heap) (locs : List Loc) (ls : Array Slot), gH G σ H → va_S (gAA G) s.heap H locs → lv_has ls 5 [(0, .ref (gad G o 0)), (1, .int x1), (2, .int x2)] → WB p l e 2 50 s m args below meth c G (some (.int r)) σ' H locs (F0 m 14 ls [])) := by
  intro σ x1 x2 hf H locs ls hH hS hl
  rw [fX6_plan_14.eq_1] at hf
  refine lv_iload_n X.hx X.hb dX6_plan_14 rfl (lv_at hl 1 rfl) ?_
  refine lv_iconst (v := 0) X.hx X.hb dX6_plan_15 (by decide) ?_
  refine lv_aload_n X.hx X.hb dX6_plan_16 rfl (lv_at hl 0 rfl) ?_
  refine lv_bipush (v := 10) X.hx X.hb dX6_plan_17 (by decide) ?_
  refine lv_aload_n X.hx X.hb dX6_plan_19 rfl (lv_at hl 0 rfl) ?_
  refine gfX6_82 X hH ho dX6_plan_20 ?_
  obtain ⟨r21, hr, hf⟩ := bd_e hf
  refine g_callVI (As := [.int (10 : Int32), .int (mI σ o 3)]) (rest := [.int (0 : Int32), .int x1]) X (kX6_power l ho hr) (C := RX6) (T := TX6) (N := 39) (ci := 6) rfl ho ⟨cdX6_power, mlX6_195, imX6_power, seX6_power, iniX6⟩ hvX6_power ⟨Nat.le_of_ble_eq_true rfl, Nat.le_of_ble_eq_true rfl⟩ hH hS hl rfl rfl (Nat.le_of_ble_eq_true rfl) ⟨Nat.le_refl 0, Nat.le_refl 0⟩ dX6_plan_23 (fun H locs hH hS => ?_)
  refine lv_iconst (v := 1) X.hx X.hb dX6_plan_26 (by decide) ?_
  refine lv_isub X.hx X.hb dX6_plan_27 ?_
  obtain ⟨r22, hr, hf⟩ := bd_e hf
  refine g_callSI (As := [.int x1, .int (0 : Int32), .int (r21 - (1 : Int32))]) (rest := []) X (kX6_in l  hr) ⟨cdX6_in, mlX6_85, stX6_in, iniX6⟩ hsX6_in ⟨Nat.le_of_ble_eq_true rfl, Nat.le_of_ble_eq_true rfl⟩ hH hS hl rfl rfl (Nat.le_of_ble_eq_true rfl) ⟨Nat.le_refl 0, Nat.le_refl 0⟩ dX6_plan_28 (fun H locs hH hS => ?_)
  refine lv_if_ne (tgt := 36) X.hx X.hb dX6_plan_31 (by decide) (fun c23 => ?_) (fun c23 => ?_)
  · have hf := it_n hf c23
    refine lv_iload_n X.hx X.hb dX6_plan_36 rfl (lv_at hl 1 rfl) ?_
    refine lv_istore_n (lv' := [(3, .int x1), (0, .ref (gad G o 0)), (1, .int x1), (2, .int x2)]) X.hx X.hb dX6_plan_37 rfl hl (by decide) rfl (fun ls hl => ?_)
    refine lv_iconst (v := 0) X.hx X.hb dX6_plan_38 (by decide) ?_
    refine lv_istore (lv' := [(4, .int (0 : Int32)), (3, .int x1), (0, .ref (gad G o 0)), (1, .int x1), (2, .int x2)]) X.hx X.hb dX6_plan_39 hl (by decide) rfl (fun ls hl => ?_)
    exact bX6_plan_41 X  ho  _ _ _ _ _  hf _ _ _ hH hS (lv_sub hl [2, 4, 1, 0] rfl)
  · have hf := it_p hf c23
    refine lv_iconst (v := -1) X.hx X.hb dX6_plan_34 (by decide) ?_
    have e := so2 hf
    rw [e.2] at hH
    exact g_iret X hH hS rfl e.1 dX6_plan_35
set_option maxRecDepth 20000 in
set_option maxHeartbeats 4000000 in
theorem kX6_plan (l : Launch) {G : gG} {σ : Mem} {r : Int32} {σ' : Mem} {o : Nat} {x1 : Int32} {x2 : Int32} (ho : gsh G o = some 6)  (hf : fX6_plan σ o x1 x2 = some (r, σ')) : CM l yX6_plan cX6_plan 5 (some .int) 2 50 G σ [.ref (gad G o 0), .int x1, .int x2] (some (.int r)) σ' := by
  refine CM.of (by decide) (Nat.le_of_ble_eq_true rfl) (fun p e s m below meth c ls X hH hl => ?_)
  have X : gX p s m _ meth c yX6_plan cX6_plan 5 (some .int) RX6 G := X
  have hS : va_S (gAA G) s.heap s.heap [] := va_S.rf
  have hl : lv_has ls 5 [(0, .ref (gad G o 0)), (1, .int x1), (2, .int x2)] := hl
  rw [fX6_plan.eq_1] at hf
  refine lv_iload_n X.hx X.hb dX6_plan_0 rfl (lv_at hl 2 rfl) ?_
  refine lv_bipush (v := -9) X.hx X.hb dX6_plan_1 (by decide) ?_
  refine lv_icmp_eq (tgt := 14) X.hx X.hb dX6_plan_3 (by decide) (fun c24 => ?_) (fun c24 => ?_)
  · have hf := it_p hf c24
    exact bX6_plan_14 X  ho   _ _ _  hf _ _ _ hH hS (lv_sub hl [0, 1, 2] rfl)
  · have hf := it_n hf c24
    refine lv_aload_n X.hx X.hb dX6_plan_6 rfl (lv_at hl 0 rfl) ?_
    refine lv_iload_n X.hx X.hb dX6_plan_7 rfl (lv_at hl 2 rfl) ?_
    obtain ⟨r25, hr, hf⟩ := bd_e hf
    refine g_callVI (As := [.int x2]) (rest := []) X (kX6_isTraveller l ho hr) (C := RX6) (T := TX6) (N := 39) (ci := 6) rfl ho ⟨cdX6_isTraveller, mlX6_158, imX6_isTraveller, seX6_isTraveller, iniX6⟩ hvX6_isTraveller ⟨Nat.le_of_ble_eq_true rfl, Nat.le_of_ble_eq_true rfl⟩ hH hS hl rfl rfl (Nat.le_of_ble_eq_true rfl) ⟨Nat.le_refl 0, Nat.le_refl 0⟩ dX6_plan_8 (fun H locs hH hS => ?_)
    refine lv_if_eq (tgt := 34) X.hx X.hb dX6_plan_11 (by decide) (fun c26 => ?_) (fun c26 => ?_)
    · have hf := it_p hf c26
      refine lv_iconst (v := -1) X.hx X.hb dX6_plan_34 (by decide) ?_
      have e := so2 hf
      rw [e.2] at hH
      exact g_iret X hH hS rfl e.1 dX6_plan_35
    · have hf := it_n hf c26
      exact bX6_plan_14 X  ho   _ _ _  hf _ _ _ hH hS (lv_sub hl [0, 1, 2] rfl)
set_option maxRecDepth 20000 in
set_option maxHeartbeats 4000000 in
theorem kX6_waits (l : Launch) {G : gG} {σ : Mem} {r : Int32} {o : Nat} {x1 : Int32} (ho : gsh G o = some 6)  (hf : fX6_waits σ o x1 = some r) : CM l yX6_waits cX6_waits 2 (some .int) 2 43 G σ [.ref (gad G o 0), .int x1] (some (.int r)) σ := by
  refine CM.of (by decide) (Nat.le_of_ble_eq_true rfl) (fun p e s m below meth c ls X hH hl => ?_)
  have X : gX p s m _ meth c yX6_waits cX6_waits 2 (some .int) RX6 G := X
  have hS : va_S (gAA G) s.heap s.heap [] := va_S.rf
  have hl : lv_has ls 2 [(0, .ref (gad G o 0)), (1, .int x1)] := hl
  rw [fX6_waits.eq_1] at hf
  refine lv_aload_n X.hx X.hb dX6_waits_0 rfl (lv_at hl 0 rfl) ?_
  refine lv_iload_n X.hx X.hb dX6_waits_1 rfl (lv_at hl 1 rfl) ?_
  obtain ⟨r5, hr, hf⟩ := bd_e hf
  refine g_callVI (As := [.int x1]) (rest := []) X (kX6_isTraveller l ho hr) (C := RX6) (T := TX6) (N := 39) (ci := 6) rfl ho ⟨cdX6_isTraveller, mlX6_158, imX6_isTraveller, seX6_isTraveller, iniX6⟩ hvX6_isTraveller ⟨Nat.le_of_ble_eq_true rfl, Nat.le_of_ble_eq_true rfl⟩ hH hS hl rfl rfl (Nat.le_of_ble_eq_true rfl) ⟨Nat.le_refl 0, Nat.le_refl 0⟩ dX6_waits_2 (fun H locs hH hS => ?_)
  refine lv_if_ne (tgt := 10) X.hx X.hb dX6_waits_5 (by decide) (fun c6 => ?_) (fun c6 => ?_)
  · have hf := it_n hf c6
    refine lv_aload_n X.hx X.hb dX6_waits_10 rfl (lv_at hl 0 rfl) ?_
    refine gfX6_26 X hH ho dX6_waits_11 ?_
    refine lv_iconst (v := 2) X.hx X.hb dX6_waits_14 (by decide) ?_
    refine lv_iload_n X.hx X.hb dX6_waits_15 rfl (lv_at hl 1 rfl) ?_
    refine lv_iadd X.hx X.hb dX6_waits_16 ?_
    obtain ⟨hg, hf⟩ := gd_e hf
    refine g_iald X hH ⟨_, ho, rfl⟩ hg dX6_waits_17 ?_
    refine lv_bipush (v := -9) X.hx X.hb dX6_waits_18 (by decide) ?_
    refine lv_icmp_ne (tgt := 26) X.hx X.hb dX6_waits_20 (by decide) (fun c7 => ?_) (fun c7 => ?_)
    · have hf := it_n hf c7
      refine lv_aload_n X.hx X.hb dX6_waits_26 rfl (lv_at hl 0 rfl) ?_
      refine gfX6_26 X hH ho dX6_waits_27 ?_
      refine lv_bipush (v := 8) X.hx X.hb dX6_waits_30 (by decide) ?_
      refine lv_iload_n X.hx X.hb dX6_waits_32 rfl (lv_at hl 1 rfl) ?_
      refine lv_iadd X.hx X.hb dX6_waits_33 ?_
      obtain ⟨hg, hf⟩ := gd_e hf
      refine g_iald X hH ⟨_, ho, rfl⟩ hg dX6_waits_34 ?_
      refine lv_aload_n X.hx X.hb dX6_waits_35 rfl (lv_at hl 0 rfl) ?_
      refine gfX6_7 X hH ho dX6_waits_36 ?_
      refine lv_icmp_ge (tgt := 59) X.hx X.hb dX6_waits_39 (by decide) (fun c8 => ?_) (fun c8 => ?_)
      · have hf := it_p hf c8
        refine lv_iconst (v := 0) X.hx X.hb dX6_waits_59 (by decide) ?_
        exact g_iret X hH hS rfl (so1 hf) dX6_waits_60
      · have hf := it_n hf c8
        refine lv_aload_n X.hx X.hb dX6_waits_42 rfl (lv_at hl 0 rfl) ?_
        refine gfX6_7 X hH ho dX6_waits_43 ?_
        refine lv_aload_n X.hx X.hb dX6_waits_46 rfl (lv_at hl 0 rfl) ?_
        refine gfX6_26 X hH ho dX6_waits_47 ?_
        refine lv_bipush (v := 8) X.hx X.hb dX6_waits_50 (by decide) ?_
        refine lv_iload_n X.hx X.hb dX6_waits_52 rfl (lv_at hl 1 rfl) ?_
        refine lv_iadd X.hx X.hb dX6_waits_53 ?_
        obtain ⟨hg, hf⟩ := gd_e hf
        refine g_iald X hH ⟨_, ho, rfl⟩ hg dX6_waits_54 ?_
        refine lv_isub X.hx X.hb dX6_waits_55 ?_
        refine lv_goto (tgt := 60) X.hx X.hb dX6_waits_56 (by decide) ?_
        exact g_iret X hH hS rfl (so1 hf) dX6_waits_60
    · have hf := it_p hf c7
      refine lv_bipush (v := -2) X.hx X.hb dX6_waits_23 (by decide) ?_
      exact g_iret X hH hS rfl (so1 hf) dX6_waits_25
  · have hf := it_p hf c6
    refine lv_iconst (v := -1) X.hx X.hb dX6_waits_8 (by decide) ?_
    exact g_iret X hH hS rfl (so1 hf) dX6_waits_9
set_option maxRecDepth 20000 in
set_option maxHeartbeats 4000000 in
theorem bX6_boat_149 {p : Program} {l : Launch} {e : Env} {s : State} {m : MethodId} {args : Array Value} {below : List Frame} {meth : Method} {c : Code} {G : gG} (X : gX p s m args meth c yX6_boat cX6_boat 8 (some .int) RX6 G) {o : Nat} (ho : gsh G o = some 6)  {σ : Mem} {r : Int32} {k30 : Int32 → Int32 → Int32 → Int32 → Int32 → Option Int32} (hk30 : (∀ (x1 : Int32) (x2 : Int32) (x3 : Int32) (x4 : Int32) (x5 : Int32), k30 x1 x2 x3 x4 x5 = some r → ∀ (H : Heap) (locs : List Loc) (ls : Array Slot), gH G σ H → va_S (gAA G) s.heap H locs → lv_has ls 8 [(0, .ref (gad G o 0)), (1, .int x1), (2, .int x2), (3, .int x3), (4, .int x4), (5, .int x5)] → WB p l e 1 22 s m args below meth c G (some (.int r)) σ H locs (F0 m 30 ls []))) : (∀ (x1 : Int32) (x2 : Int32) (x4 : Int32) (x5 : Int32) (x6 : Int32) (x7 : Int32) (xs0 : Int32), fX6_boat_149 k30 σ o x1 x2 x4 x5 x6 x7 xs0 = some r → ∀ (H : Heap) (locs : List Loc) (ls : Array Slot), gH G σ H → va_S (gAA G) s.heap H locs → lv_has ls 8 [(0, .ref (gad G o 0)), (1, .int x1), (2, .int x2), (4, .int x4), (5, .int x5), (6, .int x6), (7, .int x7)] → WB p l e 1 22 s m args below meth c G (some (.int r)) σ H locs (F0 m 149 ls [.int xs0])) := by
  intro x1 x2 x4 x5 x6 x7 xs0 hf H locs ls hH hS hl
  rw [fX6_boat_149.eq_1] at hf
  refine lv_istore_n (lv' := [(3, .int xs0), (0, .ref (gad G o 0)), (1, .int x1), (2, .int x2), (4, .int x4), (5, .int x5), (6, .int x6), (7, .int x7)]) X.hx X.hb dX6_boat_149 rfl hl (by decide) rfl (fun ls hl => ?_)
  refine lv_iload X.hx X.hb dX6_boat_150 (lv_at hl 7 rfl) ?_
  refine lv_if_eq (tgt := 160) X.hx X.hb dX6_boat_152 (by decide) (fun c16 => ?_) (fun c16 => ?_)
  · have hf := it_p hf c16
    refine lv_iload X.hx X.hb dX6_boat_160 (lv_at hl 4 rfl) ?_
    refine lv_istore (lv' := [(4, .int x4), (3, .int xs0), (0, .ref (gad G o 0)), (1, .int x1), (2, .int x2), (5, .int x5), (6, .int x6), (7, .int x7)]) X.hx X.hb dX6_boat_162 hl (by decide) rfl (fun ls hl => ?_)
    refine lv_iinc (v := x5 + 1) (lv' := [(5, .int (x5 + 1)), (4, .int x4), (3, .int xs0), (0, .ref (gad G o 0)), (1, .int x1), (2, .int x2), (6, .int x6), (7, .int x7)]) X.hx X.hb dX6_boat_164 hl (k := 5) rfl rfl (by decide) rfl (fun ls hl => ?_)
    refine lv_goto (tgt := 30) X.hx X.hb dX6_boat_167 (by decide) ?_
    exact hk30 _ _ _ _ _  hf _ _ _ hH hS (lv_sub hl [3, 4, 5, 2, 1, 0] rfl)
  · have hf := it_n hf c16
    refine lv_iload X.hx X.hb dX6_boat_155 (lv_at hl 6 rfl) ?_
    refine lv_goto (tgt := 162) X.hx X.hb dX6_boat_157 (by decide) ?_
    refine lv_istore (lv' := [(4, .int x6), (3, .int xs0), (0, .ref (gad G o 0)), (1, .int x1), (2, .int x2), (5, .int x5), (6, .int x6), (7, .int x7)]) X.hx X.hb dX6_boat_162 hl (by decide) rfl (fun ls hl => ?_)
    refine lv_iinc (v := x5 + 1) (lv' := [(5, .int (x5 + 1)), (4, .int x6), (3, .int xs0), (0, .ref (gad G o 0)), (1, .int x1), (2, .int x2), (6, .int x6), (7, .int x7)]) X.hx X.hb dX6_boat_164 hl (k := 5) rfl rfl (by decide) rfl (fun ls hl => ?_)
    refine lv_goto (tgt := 30) X.hx X.hb dX6_boat_167 (by decide) ?_
    exact hk30 _ _ _ _ _  hf _ _ _ hH hS (lv_sub hl [3, 4, 5, 2, 1, 0] rfl)
set_option maxRecDepth 20000 in
set_option maxHeartbeats 4000000 in
theorem bX6_boat_129 {p : Program} {l : Launch} {e : Env} {s : State} {m : MethodId} {args : Array Value} {below : List Frame} {meth : Method} {c : Code} {G : gG} (X : gX p s m args meth c yX6_boat cX6_boat 8 (some .int) RX6 G) {o : Nat} (ho : gsh G o = some 6)  {σ : Mem} {r : Int32} {k30 : Int32 → Int32 → Int32 → Int32 → Int32 → Option Int32} (hk30 : (∀ (x1 : Int32) (x2 : Int32) (x3 : Int32) (x4 : Int32) (x5 : Int32), k30 x1 x2 x3 x4 x5 = some r → ∀ (H : Heap) (locs : List Loc) (ls : Array Slot), gH G σ H → va_S (gAA G) s.heap H locs → lv_has ls 8 [(0, .ref (gad G o 0)), (1, .int x1), (2, .int x2), (3, .int x3), (4, .int x4), (5, .int x5)] → WB p l e 1 22 s m args below meth c G (some (.int r)) σ H locs (F0 m 30 ls []))) : (∀ (x1 : Int32) (x2 : Int32) (x3 : Int32) (x4 : Int32) (x5 : Int32) (x6 : Int32) (xs0 : Int32), fX6_boat_129 k30 σ o x1 x2 x3 x4 x5 x6 xs0 = some r → ∀ (H : Heap) (locs : List Loc) (ls : Array Slot), gH G σ H → va_S (gAA G) s.heap H locs → lv_has ls 8 [(0, .ref (gad G o 0)), (1, .int x1), (2, .int x2), (3, .int x3), (4, .int x4), (5, .int x5), (6, .int x6)] → WB p l e 1 22 s m args below meth c G (some (.int r)) σ H locs (F0 m 129 ls [.int xs0])) := by
  intro x1 x2 x3 x4 x5 x6 xs0 hf H locs ls hH hS hl
  rw [fX6_boat_129.eq_1] at hf
  refine lv_istore (lv' := [(7, .int xs0), (0, .ref (gad G o 0)), (1, .int x1), (2, .int x2), (3, .int x3), (4, .int x4), (5, .int x5), (6, .int x6)]) X.hx X.hb dX6_boat_129 hl (by decide) rfl (fun ls hl => ?_)
  refine lv_iload X.hx X.hb dX6_boat_131 (lv_at hl 0 rfl) ?_
  refine lv_if_eq (tgt := 148) X.hx X.hb dX6_boat_133 (by decide) (fun c17 => ?_) (fun c17 => ?_)
  · have hf := it_p hf c17
    refine lv_iload_n X.hx X.hb dX6_boat_148 rfl (lv_at hl 4 rfl) ?_
    exact bX6_boat_149 X  ho hk30  _ _ _ _ _ _ _  hf _ _ _ hH hS (lv_sub hl [1, 2, 3, 5, 6, 7, 0] rfl)
  · have hf := it_n hf c17
    refine lv_aload_n X.hx X.hb dX6_boat_136 rfl (lv_at hl 1 rfl) ?_
    refine gfX6_26 X hH ho dX6_boat_137 ?_
    refine lv_iconst (v := 0) X.hx X.hb dX6_boat_140 (by decide) ?_
    obtain ⟨hg, hf⟩ := gd_e hf
    refine g_iald X hH ⟨_, ho, rfl⟩ hg dX6_boat_141 ?_
    refine lv_iload X.hx X.hb dX6_boat_142 (lv_at hl 6 rfl) ?_
    refine lv_iadd X.hx X.hb dX6_boat_144 ?_
    refine lv_goto (tgt := 149) X.hx X.hb dX6_boat_145 (by decide) ?_
    exact bX6_boat_149 X  ho hk30  _ _ _ _ _ _ _  hf _ _ _ hH hS (lv_sub hl [1, 2, 3, 5, 6, 7, 0] rfl)
set_option maxRecDepth 20000 in
set_option maxHeartbeats 4000000 in
theorem bX6_boat_42 {p : Program} {l : Launch} {e : Env} {s : State} {m : MethodId} {args : Array Value} {below : List Frame} {meth : Method} {c : Code} {G : gG} (X : gX p s m args meth c yX6_boat cX6_boat 8 (some .int) RX6 G) {o : Nat} (ho : gsh G o = some 6)  {σ : Mem} {r : Int32} {k30 : Int32 → Int32 → Int32 → Int32 → Int32 → Option Int32} (hk30 : (∀ (x1 : Int32) (x2 : Int32) (x3 : Int32) (x4 : Int32) (x5 : Int32), k30 x1 x2 x3 x4 x5 = some r → ∀ (H : Heap) (locs : List Loc) (ls : Array Slot), gH G σ H → va_S (gAA G) s.heap H locs → lv_has ls 8 [(0, .ref (gad G o 0)), (1, .int x1), (2, .int x2), (3, .int x3), (4, .int x4), (5, .int x5)] → WB p l e 1 22 s m args below meth c G (some (.int r)) σ H locs (F0 m 30 ls []))) : (∀ (n : Nat) (x1 : Int32) (x2 : Int32) (x3 : Int32) (x4 : Int32) (x5 : Int32) (x6 : Int32) (x7 : Int32), fX6_boat_42 k30 σ o n x1 x2 x3 x4 x5 x6 x7 = some r → ∀ (H : Heap) (locs : List Loc) (ls : Array Slot), gH G σ H → va_S (gAA G) s.heap H locs → lv_has ls 8 [(0, .ref (gad G o 0)), (1, .int x1), (2, .int x2), (3, .int x3), (4, .int x4), (5, .int x5), (6, .int x6), (7, .int x7)] → WB p l e 1 22 s m args below meth c G (some (.int r)) σ H locs (F0 m 42 ls [])) := by
  intro n
  induction n with
  | zero => intro x1 x2 x3 x4 x5 x6 x7 hf H locs ls hH hS hl; exact nomatch (show (none : Option Int32) = some _ from hf)
  | succ n ih =>
    intro x1 x2 x3 x4 x5 x6 x7 hf H locs ls hH hS hl
    rw [fX6_boat_42.eq_2] at hf
    refine lv_iload X.hx X.hb dX6_boat_42 (lv_at hl 7 rfl) ?_
    refine lv_aload_n X.hx X.hb dX6_boat_44 rfl (lv_at hl 0 rfl) ?_
    refine gfX6_82 X hH ho dX6_boat_45 ?_
    refine lv_icmp_ge (tgt := 101) X.hx X.hb dX6_boat_48 (by decide) (fun c18 => ?_) (fun c18 => ?_)
    · have hf := it_p hf c18
      refine lv_aload_n X.hx X.hb dX6_boat_101 rfl (lv_at hl 0 rfl) ?_
      refine lv_aload_n X.hx X.hb dX6_boat_102 rfl (lv_at hl 0 rfl) ?_
      refine gfX6_26 X hH ho dX6_boat_103 ?_
      refine lv_iconst (v := 0) X.hx X.hb dX6_boat_106 (by decide) ?_
      obtain ⟨hg, hf⟩ := gd_e hf
      refine g_iald X hH ⟨_, ho, rfl⟩ hg dX6_boat_107 ?_
      refine lv_iload X.hx X.hb dX6_boat_108 (lv_at hl 5 rfl) ?_
      refine lv_iadd X.hx X.hb dX6_boat_110 ?_
      obtain ⟨r19, hr, hf⟩ := bd_e hf
      refine g_callVI (As := [.int ((mA σ o 7 (0 : Int32).toNatClampNeg) + x5)]) (rest := []) X (kX6_sailsOn l ho hr) (C := RX6) (T := TX6) (N := 39) (ci := 6) rfl ho ⟨cdX6_sailsOn, mlX6_175, imX6_sailsOn, seX6_sailsOn, iniX6⟩ hvX6_sailsOn ⟨Nat.le_of_ble_eq_true rfl, Nat.le_of_ble_eq_true rfl⟩ hH hS hl rfl rfl (Nat.le_of_ble_eq_true rfl) ⟨Nat.le_refl 0, Nat.le_refl 0⟩ dX6_boat_111 (fun H locs hH hS => ?_)
      refine lv_if_eq (tgt := 128) X.hx X.hb dX6_boat_114 (by decide) (fun c20 => ?_) (fun c20 => ?_)
      · have hf := it_p hf c20
        refine lv_iconst (v := 0) X.hx X.hb dX6_boat_128 (by decide) ?_
        exact bX6_boat_129 X  ho hk30  _ _ _ _ _ _ _  hf _ _ _ hH hS (lv_sub hl [0, 1, 2, 3, 4, 5, 6] rfl)
      · have hf := it_n hf c20
        refine lv_iload X.hx X.hb dX6_boat_117 (lv_at hl 6 rfl) ?_
        refine lv_iload X.hx X.hb dX6_boat_119 (lv_at hl 4 rfl) ?_
        refine lv_icmp_le (tgt := 128) X.hx X.hb dX6_boat_121 (by decide) (fun c21 => ?_) (fun c21 => ?_)
        · have hf := it_p hf c21
          refine lv_iconst (v := 0) X.hx X.hb dX6_boat_128 (by decide) ?_
          exact bX6_boat_129 X  ho hk30  _ _ _ _ _ _ _  hf _ _ _ hH hS (lv_sub hl [0, 1, 2, 3, 4, 5, 6] rfl)
        · have hf := it_n hf c21
          refine lv_iconst (v := 1) X.hx X.hb dX6_boat_124 (by decide) ?_
          refine lv_goto (tgt := 129) X.hx X.hb dX6_boat_125 (by decide) ?_
          exact bX6_boat_129 X  ho hk30  _ _ _ _ _ _ _  hf _ _ _ hH hS (lv_sub hl [0, 1, 2, 3, 4, 5, 6] rfl)
    · have hf := it_n hf c18
      refine lv_iload X.hx X.hb dX6_boat_51 (lv_at hl 6 rfl) ?_
      refine lv_aload_n X.hx X.hb dX6_boat_53 rfl (lv_at hl 0 rfl) ?_
      refine gfX6_26 X hH ho dX6_boat_54 ?_
      refine lv_iconst (v := 2) X.hx X.hb dX6_boat_57 (by decide) ?_
      refine lv_iload X.hx X.hb dX6_boat_58 (lv_at hl 7 rfl) ?_
      refine lv_iadd X.hx X.hb dX6_boat_60 ?_
      obtain ⟨hg, hf⟩ := gd_e hf
      refine g_iald X hH ⟨_, ho, rfl⟩ hg dX6_boat_61 ?_
      refine lv_bipush (v := -9) X.hx X.hb dX6_boat_62 (by decide) ?_
      refine lv_icmp_eq (tgt := 91) X.hx X.hb dX6_boat_64 (by decide) (fun c22 => ?_) (fun c22 => ?_)
      · have hf := it_p hf c22
        refine lv_iconst (v := 0) X.hx X.hb dX6_boat_91 (by decide) ?_
        refine lv_iadd X.hx X.hb dX6_boat_92 ?_
        refine lv_istore (lv' := [(6, .int (x6 + (0 : Int32))), (0, .ref (gad G o 0)), (1, .int x1), (2, .int x2), (3, .int x3), (4, .int x4), (5, .int x5), (7, .int x7)]) X.hx X.hb dX6_boat_93 hl (by decide) rfl (fun ls hl => ?_)
        refine lv_iinc (v := x7 + 1) (lv' := [(7, .int (x7 + 1)), (6, .int (x6 + (0 : Int32))), (0, .ref (gad G o 0)), (1, .int x1), (2, .int x2), (3, .int x3), (4, .int x4), (5, .int x5)]) X.hx X.hb dX6_boat_95 hl (k := 7) rfl rfl (by decide) rfl (fun ls hl => ?_)
        refine lv_goto (tgt := 42) X.hx X.hb dX6_boat_98 (by decide) ?_
        exact ih _ _ _ _ _ _ _  hf _ _ _ hH hS (lv_sub hl [2, 3, 4, 5, 6, 7, 1, 0] rfl)
      · have hf := it_n hf c22
        refine lv_aload_n X.hx X.hb dX6_boat_67 rfl (lv_at hl 0 rfl) ?_
        refine gfX6_26 X hH ho dX6_boat_68 ?_
        refine lv_bipush (v := 8) X.hx X.hb dX6_boat_71 (by decide) ?_
        refine lv_iload X.hx X.hb dX6_boat_73 (lv_at hl 7 rfl) ?_
        refine lv_iadd X.hx X.hb dX6_boat_75 ?_
        obtain ⟨hg, hf⟩ := gd_e hf
        refine g_iald X hH ⟨_, ho, rfl⟩ hg dX6_boat_76 ?_
        refine lv_iload X.hx X.hb dX6_boat_77 (lv_at hl 5 rfl) ?_
        refine lv_iadd X.hx X.hb dX6_boat_79 ?_
        refine lv_aload_n X.hx X.hb dX6_boat_80 rfl (lv_at hl 0 rfl) ?_
        refine gfX6_7 X hH ho dX6_boat_81 ?_
        refine lv_icmp_lt (tgt := 91) X.hx X.hb dX6_boat_84 (by decide) (fun c23 => ?_) (fun c23 => ?_)
        · have hf := it_p hf c23
          refine lv_iconst (v := 0) X.hx X.hb dX6_boat_91 (by decide) ?_
          refine lv_iadd X.hx X.hb dX6_boat_92 ?_
          refine lv_istore (lv' := [(6, .int (x6 + (0 : Int32))), (0, .ref (gad G o 0)), (1, .int x1), (2, .int x2), (3, .int x3), (4, .int x4), (5, .int x5), (7, .int x7)]) X.hx X.hb dX6_boat_93 hl (by decide) rfl (fun ls hl => ?_)
          refine lv_iinc (v := x7 + 1) (lv' := [(7, .int (x7 + 1)), (6, .int (x6 + (0 : Int32))), (0, .ref (gad G o 0)), (1, .int x1), (2, .int x2), (3, .int x3), (4, .int x4), (5, .int x5)]) X.hx X.hb dX6_boat_95 hl (k := 7) rfl rfl (by decide) rfl (fun ls hl => ?_)
          refine lv_goto (tgt := 42) X.hx X.hb dX6_boat_98 (by decide) ?_
          exact ih _ _ _ _ _ _ _  hf _ _ _ hH hS (lv_sub hl [2, 3, 4, 5, 6, 7, 1, 0] rfl)
        · have hf := it_n hf c23
          refine lv_iconst (v := 1) X.hx X.hb dX6_boat_87 (by decide) ?_
          refine lv_goto (tgt := 92) X.hx X.hb dX6_boat_88 (by decide) ?_
          refine lv_iadd X.hx X.hb dX6_boat_92 ?_
          refine lv_istore (lv' := [(6, .int (x6 + (1 : Int32))), (0, .ref (gad G o 0)), (1, .int x1), (2, .int x2), (3, .int x3), (4, .int x4), (5, .int x5), (7, .int x7)]) X.hx X.hb dX6_boat_93 hl (by decide) rfl (fun ls hl => ?_)
          refine lv_iinc (v := x7 + 1) (lv' := [(7, .int (x7 + 1)), (6, .int (x6 + (1 : Int32))), (0, .ref (gad G o 0)), (1, .int x1), (2, .int x2), (3, .int x3), (4, .int x4), (5, .int x5)]) X.hx X.hb dX6_boat_95 hl (k := 7) rfl rfl (by decide) rfl (fun ls hl => ?_)
          refine lv_goto (tgt := 42) X.hx X.hb dX6_boat_98 (by decide) ?_
          exact ih _ _ _ _ _ _ _  hf _ _ _ hH hS (lv_sub hl [2, 3, 4, 5, 6, 7, 1, 0] rfl)
set_option maxRecDepth 20000 in
set_option maxHeartbeats 4000000 in
theorem bX6_boat_30 {p : Program} {l : Launch} {e : Env} {s : State} {m : MethodId} {args : Array Value} {below : List Frame} {meth : Method} {c : Code} {G : gG} (X : gX p s m args meth c yX6_boat cX6_boat 8 (some .int) RX6 G) {o : Nat} (ho : gsh G o = some 6)  {σ : Mem} {r : Int32} : (∀ (n : Nat) (x1 : Int32) (x2 : Int32) (x3 : Int32) (x4 : Int32) (x5 : Int32), fX6_boat_30 σ o n x1 x2 x3 x4 x5 = some r → ∀ (H : Heap) (locs : List Loc) (ls : Array Slot), gH G σ H → va_S (gAA G) s.heap H locs → lv_has ls 8 [(0, .ref (gad G o 0)), (1, .int x1), (2, .int x2), (3, .int x3), (4, .int x4), (5, .int x5)] → WB p l e 1 22 s m args below meth c G (some (.int r)) σ H locs (F0 m 30 ls [])) := by
  intro n
  induction n with
  | zero => intro x1 x2 x3 x4 x5 hf H locs ls hH hS hl; exact nomatch (show (none : Option Int32) = some _ from hf)
  | succ n ih =>
    intro x1 x2 x3 x4 x5 hf H locs ls hH hS hl
    rw [fX6_boat_30.eq_2] at hf
    refine lv_iload X.hx X.hb dX6_boat_30 (lv_at hl 5 rfl) ?_
    refine lv_iload_n X.hx X.hb dX6_boat_32 rfl (lv_at hl 1 rfl) ?_
    refine lv_icmp_gt (tgt := 170) X.hx X.hb dX6_boat_33 (by decide) (fun c24 => ?_) (fun c24 => ?_)
    · have hf := it_p hf c24
      refine lv_iload_n X.hx X.hb dX6_boat_170 rfl (lv_at hl 3 rfl) ?_
      refine lv_bipush (v := -9) X.hx X.hb dX6_boat_171 (by decide) ?_
      refine lv_icmp_ne (tgt := 181) X.hx X.hb dX6_boat_173 (by decide) (fun c25 => ?_) (fun c25 => ?_)
      · have hf := it_n hf c25
        refine lv_iload_n X.hx X.hb dX6_boat_181 rfl (lv_at hl 2 rfl) ?_
        refine lv_if_ne (tgt := 189) X.hx X.hb dX6_boat_182 (by decide) (fun c26 => ?_) (fun c26 => ?_)
        · have hf := it_n hf c26
          refine lv_iload X.hx X.hb dX6_boat_189 (lv_at hl 4 rfl) ?_
          exact g_iret X hH hS rfl (so1 hf) dX6_boat_191
        · have hf := it_p hf c26
          refine lv_iload_n X.hx X.hb dX6_boat_185 rfl (lv_at hl 3 rfl) ?_
          refine lv_goto (tgt := 191) X.hx X.hb dX6_boat_186 (by decide) ?_
          exact g_iret X hH hS rfl (so1 hf) dX6_boat_191
      · have hf := it_p hf c25
        refine lv_bipush (v := -9) X.hx X.hb dX6_boat_176 (by decide) ?_
        refine lv_goto (tgt := 191) X.hx X.hb dX6_boat_178 (by decide) ?_
        exact g_iret X hH hS rfl (so1 hf) dX6_boat_191
    · have hf := it_n hf c24
      refine lv_iconst (v := 0) X.hx X.hb dX6_boat_36 (by decide) ?_
      refine lv_istore (lv' := [(6, .int (0 : Int32)), (0, .ref (gad G o 0)), (1, .int x1), (2, .int x2), (3, .int x3), (4, .int x4), (5, .int x5)]) X.hx X.hb dX6_boat_37 hl (by decide) rfl (fun ls hl => ?_)
      refine lv_iconst (v := 0) X.hx X.hb dX6_boat_39 (by decide) ?_
      refine lv_istore (lv' := [(7, .int (0 : Int32)), (6, .int (0 : Int32)), (0, .ref (gad G o 0)), (1, .int x1), (2, .int x2), (3, .int x3), (4, .int x4), (5, .int x5)]) X.hx X.hb dX6_boat_40 hl (by decide) rfl (fun ls hl => ?_)
      exact bX6_boat_42 X  ho ih _ _ _ _ _ _ _ _  hf _ _ _ hH hS (lv_sub hl [2, 3, 4, 5, 6, 7, 1, 0] rfl)
set_option maxRecDepth 20000 in
set_option maxHeartbeats 4000000 in
theorem kX6_boat (l : Launch) {G : gG} {σ : Mem} {r : Int32} {o : Nat} {x1 : Int32} {x2 : Int32} (ho : gsh G o = some 6)  (hf : fX6_boat σ o x1 x2 = some r) : CM l yX6_boat cX6_boat 8 (some .int) 1 22 G σ [.ref (gad G o 0), .int x1, .int x2] (some (.int r)) σ := by
  refine CM.of (by decide) (Nat.le_of_ble_eq_true rfl) (fun p e s m below meth c ls X hH hl => ?_)
  have X : gX p s m _ meth c yX6_boat cX6_boat 8 (some .int) RX6 G := X
  have hS : va_S (gAA G) s.heap s.heap [] := va_S.rf
  have hl : lv_has ls 8 [(0, .ref (gad G o 0)), (1, .int x1), (2, .int x2)] := hl
  rw [fX6_boat.eq_1] at hf
  refine lv_iload_n X.hx X.hb dX6_boat_0 rfl (lv_at hl 1 rfl) ?_
  refine lv_iconst (v := 1) X.hx X.hb dX6_boat_1 (by decide) ?_
  refine lv_bipush (v := 60) X.hx X.hb dX6_boat_2 (by decide) ?_
  obtain ⟨r27, hr, hf⟩ := bd_e hf
  refine g_callSI (As := [.int x1, .int (1 : Int32), .int (60 : Int32)]) (rest := []) X (kX6_in l  hr) ⟨cdX6_in, mlX6_85, stX6_in, iniX6⟩ hsX6_in ⟨Nat.le_of_ble_eq_true rfl, Nat.le_of_ble_eq_true rfl⟩ hH hS hl rfl rfl (Nat.le_of_ble_eq_true rfl) ⟨Nat.le_refl 0, Nat.le_refl 0⟩ dX6_boat_4 (fun H locs hH hS => ?_)
  refine lv_if_eq (tgt := 19) X.hx X.hb dX6_boat_7 (by decide) (fun c28 => ?_) (fun c28 => ?_)
  · have hf := it_p hf c28
    refine lv_iconst (v := -1) X.hx X.hb dX6_boat_19 (by decide) ?_
    exact g_iret X hH hS rfl (so1 hf) dX6_boat_20
  · have hf := it_n hf c28
    refine lv_iload_n X.hx X.hb dX6_boat_10 rfl (lv_at hl 2 rfl) ?_
    refine lv_iconst (v := 0) X.hx X.hb dX6_boat_11 (by decide) ?_
    refine lv_iconst (v := 1) X.hx X.hb dX6_boat_12 (by decide) ?_
    obtain ⟨r29, hr, hf⟩ := bd_e hf
    refine g_callSI (As := [.int x2, .int (0 : Int32), .int (1 : Int32)]) (rest := []) X (kX6_in l  hr) ⟨cdX6_in, mlX6_85, stX6_in, iniX6⟩ hsX6_in ⟨Nat.le_of_ble_eq_true rfl, Nat.le_of_ble_eq_true rfl⟩ hH hS hl rfl rfl (Nat.le_of_ble_eq_true rfl) ⟨Nat.le_refl 0, Nat.le_refl 0⟩ dX6_boat_13 (fun H locs hH hS => ?_)
    refine lv_if_ne (tgt := 21) X.hx X.hb dX6_boat_16 (by decide) (fun c30 => ?_) (fun c30 => ?_)
    · have hf := it_n hf c30
      refine lv_bipush (v := -9) X.hx X.hb dX6_boat_21 (by decide) ?_
      refine lv_istore_n (lv' := [(3, .int (-9 : Int32)), (0, .ref (gad G o 0)), (1, .int x1), (2, .int x2)]) X.hx X.hb dX6_boat_23 rfl hl (by decide) rfl (fun ls hl => ?_)
      refine lv_iconst (v := 0) X.hx X.hb dX6_boat_24 (by decide) ?_
      refine lv_istore (lv' := [(4, .int (0 : Int32)), (3, .int (-9 : Int32)), (0, .ref (gad G o 0)), (1, .int x1), (2, .int x2)]) X.hx X.hb dX6_boat_25 hl (by decide) rfl (fun ls hl => ?_)
      refine lv_iconst (v := 0) X.hx X.hb dX6_boat_27 (by decide) ?_
      refine lv_istore (lv' := [(5, .int (0 : Int32)), (4, .int (0 : Int32)), (3, .int (-9 : Int32)), (0, .ref (gad G o 0)), (1, .int x1), (2, .int x2)]) X.hx X.hb dX6_boat_28 hl (by decide) rfl (fun ls hl => ?_)
      exact bX6_boat_30 X  ho  _ _ _ _ _ _  hf _ _ _ hH hS (lv_sub hl [3, 4, 5, 2, 1, 0] rfl)
    · have hf := it_p hf c30
      refine lv_iconst (v := -1) X.hx X.hb dX6_boat_19 (by decide) ?_
      exact g_iret X hH hS rfl (so1 hf) dX6_boat_20
set_option maxRecDepth 20000 in
set_option maxHeartbeats 4000000 in
theorem bX6_share_6 {p : Program} {l : Launch} {e : Env} {s : State} {m : MethodId} {args : Array Value} {below : List Frame} {meth : Method} {c : Code} {G : gG} (X : gX p s m args meth c yX6_share cX6_share 11 (some .long) RX6 G)  {σ : Mem} {r : Int64} : (∀ (n : Nat) (x0 : Int64) (x2 : Int64) (x4 : Int32) (x5 : Int64) (x7 : Int64), fX6_share_6 n x0 x2 x4 x5 x7 = some r → ∀ (H : Heap) (locs : List Loc) (ls : Array Slot), gH G σ H → va_S (gAA G) s.heap H locs → lv_has ls 11 [(0, .long x0), (2, .long x2), (4, .int x4), (5, .long x5), (7, .long x7)] → WB p l e 0 0 s m args below meth c G (some (.long r)) σ H locs (F0 m 6 ls [])) := by
  intro n
  induction n with
  | zero => intro x0 x2 x4 x5 x7 hf H locs ls hH hS hl; exact nomatch (show (none : Option Int64) = some _ from hf)
  | succ n ih =>
    intro x0 x2 x4 x5 x7 hf H locs ls hH hS hl
    rw [fX6_share_6.eq_2] at hf
    refine lv_lload X.hx X.hb dX6_share_6 (lv_at hl 4 rfl) ?_
    refine lv_lconst (v := 0) X.hx X.hb dX6_share_8 (by decide) ?_
    refine W.lcmp X.hx X.hb dX6_share_9 ?_
    refine lv_if_le (tgt := 31) X.hx X.hb dX6_share_10 (by decide) (fun c3 => ?_) (fun c3 => ?_)
    · have hf := it_p hf c3
      refine lv_iload X.hx X.hb dX6_share_31 (lv_at hl 2 rfl) ?_
      refine lv_if_ne (tgt := 40) X.hx X.hb dX6_share_33 (by decide) (fun c4 => ?_) (fun c4 => ?_)
      · have hf := it_n hf c4
        refine lv_lload_n X.hx X.hb dX6_share_40 rfl (lv_at hl 1 rfl) ?_
        refine lv_lload X.hx X.hb dX6_share_41 (lv_at hl 3 rfl) ?_
        obtain ⟨hg, hf⟩ := gd_e hf
        refine lv_ldiv X.hx X.hb dX6_share_43 (of_decide_eq_true hg) ?_
        exact g_lret X hH hS rfl (so1 hf) dX6_share_44
      · have hf := it_p hf c4
        refine lv_lload_n X.hx X.hb dX6_share_36 rfl (lv_at hl 0 rfl) ?_
        refine lv_goto (tgt := 41) X.hx X.hb dX6_share_37 (by decide) ?_
        refine lv_lload X.hx X.hb dX6_share_41 (lv_at hl 3 rfl) ?_
        obtain ⟨hg, hf⟩ := gd_e hf
        refine lv_ldiv X.hx X.hb dX6_share_43 (of_decide_eq_true hg) ?_
        exact g_lret X hH hS rfl (so1 hf) dX6_share_44
    · have hf := it_n hf c3
      refine lv_lload X.hx X.hb dX6_share_13 (lv_at hl 3 rfl) ?_
      refine lv_lload X.hx X.hb dX6_share_15 (lv_at hl 4 rfl) ?_
      obtain ⟨hg, hf⟩ := gd_e hf
      refine lv_lrem X.hx X.hb dX6_share_17 (of_decide_eq_true hg) ?_
      refine lv_lstore (lv' := [(9, .long (x5 - x5 / x7 * x7)), (0, .long x0), (2, .long x2), (4, .int x4), (5, .long x5), (7, .long x7)]) X.hx X.hb dX6_share_18 hl (by decide) rfl (fun ls hl => ?_)
      refine lv_lload X.hx X.hb dX6_share_20 (lv_at hl 5 rfl) ?_
      refine lv_lstore (lv' := [(5, .long x7), (9, .long (x5 - x5 / x7 * x7)), (0, .long x0), (2, .long x2), (4, .int x4), (7, .long x7)]) X.hx X.hb dX6_share_22 hl (by decide) rfl (fun ls hl => ?_)
      refine lv_lload X.hx X.hb dX6_share_24 (lv_at hl 1 rfl) ?_
      refine lv_lstore (lv' := [(7, .long (x5 - x5 / x7 * x7)), (5, .long x7), (9, .long (x5 - x5 / x7 * x7)), (0, .long x0), (2, .long x2), (4, .int x4)]) X.hx X.hb dX6_share_26 hl (by decide) rfl (fun ls hl => ?_)
      refine lv_goto (tgt := 6) X.hx X.hb dX6_share_28 (by decide) ?_
      exact ih _ _ _ _ _  hf _ _ _ hH hS (lv_sub hl [3, 4, 5, 1, 0] rfl)
set_option maxRecDepth 20000 in
set_option maxHeartbeats 4000000 in
theorem kX6_share (l : Launch) {G : gG} {σ : Mem} {r : Int64} {x0 : Int64} {x2 : Int64} {x4 : Int32}  (hf : fX6_share x0 x2 x4 = some r) : CM l yX6_share cX6_share 11 (some .long) 0 0 G σ [.long x0, .long x2, .int x4] (some (.long r)) σ := by
  refine CM.of (by decide) (Nat.le_of_ble_eq_true rfl) (fun p e s m below meth c ls X hH hl => ?_)
  have X : gX p s m _ meth c yX6_share cX6_share 11 (some .long) RX6 G := X
  have hS : va_S (gAA G) s.heap s.heap [] := va_S.rf
  have hl : lv_has ls 11 [(0, .long x0), (2, .long x2), (4, .int x4)] := hl
  rw [fX6_share.eq_1] at hf
  refine lv_lload_n X.hx X.hb dX6_share_0 rfl (lv_at hl 0 rfl) ?_
  refine lv_lstore (lv' := [(5, .long x0), (0, .long x0), (2, .long x2), (4, .int x4)]) X.hx X.hb dX6_share_1 hl (by decide) rfl (fun ls hl => ?_)
  refine lv_lload_n X.hx X.hb dX6_share_3 rfl (lv_at hl 2 rfl) ?_
  refine lv_lstore (lv' := [(7, .long x2), (5, .long x0), (0, .long x0), (2, .long x2), (4, .int x4)]) X.hx X.hb dX6_share_4 hl (by decide) rfl (fun ls hl => ?_)
  exact bX6_share_6 X    _ _ _ _ _ _  hf _ _ _ hH hS (lv_sub hl [2, 3, 4, 1, 0] rfl)
set_option maxRecDepth 20000 in
set_option maxHeartbeats 4000000 in
theorem bX6_clean_29 {p : Program} {l : Launch} {e : Env} {s : State} {m : MethodId} {args : Array Value} {below : List Frame} {meth : Method} {c : Code} {G : gG} (X : gX p s m args meth c yX6_clean cX6_clean 8 (some .long) RX6 G) {o : Nat} (ho : gsh G o = some 6)  {σ : Mem} {r : Int64} : (∀ (n : Nat) (x1 : Int32) (x2 : Int32) (x3 : Int64) (x5 : Int64) (x7 : Int32), fX6_clean_29 σ o n x1 x2 x3 x5 x7 = some r → ∀ (H : Heap) (locs : List Loc) (ls : Array Slot), gH G σ H → va_S (gAA G) s.heap H locs → lv_has ls 8 [(0, .ref (gad G o 0)), (1, .int x1), (2, .int x2), (3, .long x3), (5, .long x5), (7, .int x7)] → WB p l e 2 43 s m args below meth c G (some (.long r)) σ H locs (F0 m 29 ls [])) := by
  intro n
  induction n with
  | zero => intro x1 x2 x3 x5 x7 hf H locs ls hH hS hl; exact nomatch (show (none : Option Int64) = some _ from hf)
  | succ n ih =>
    intro x1 x2 x3 x5 x7 hf H locs ls hH hS hl
    rw [fX6_clean_29.eq_2] at hf
    refine lv_iload X.hx X.hb dX6_clean_29 (lv_at hl 5 rfl) ?_
    refine lv_aload_n X.hx X.hb dX6_clean_31 rfl (lv_at hl 0 rfl) ?_
    refine gfX6_82 X hH ho dX6_clean_32 ?_
    refine lv_icmp_ge (tgt := 83) X.hx X.hb dX6_clean_35 (by decide) (fun c8 => ?_) (fun c8 => ?_)
    · have hf := it_p hf c8
      refine lv_lload_n X.hx X.hb dX6_clean_83 rfl (lv_at hl 3 rfl) ?_
      refine lv_lload X.hx X.hb dX6_clean_84 (lv_at hl 4 rfl) ?_
      refine lv_iload_n X.hx X.hb dX6_clean_86 rfl (lv_at hl 2 rfl) ?_
      obtain ⟨r9, hr, hf⟩ := bd_e hf
      refine g_callSL (As := [.long x3, .long x5, .int x2]) (rest := []) X (kX6_share l  hr) ⟨cdX6_share, mlX6_216, stX6_share, iniX6⟩ hsX6_share ⟨Nat.le_of_ble_eq_true rfl, Nat.le_of_ble_eq_true rfl⟩ hH hS hl rfl rfl (Nat.le_of_ble_eq_true rfl) ⟨Nat.le_refl 0, Nat.le_refl 0⟩ dX6_clean_87 (fun H locs hH hS => ?_)
      exact g_lret X hH hS rfl (so1 hf) dX6_clean_90
    · have hf := it_n hf c8
      refine lv_aload_n X.hx X.hb dX6_clean_38 rfl (lv_at hl 0 rfl) ?_
      refine gfX6_26 X hH ho dX6_clean_39 ?_
      refine lv_iconst (v := 2) X.hx X.hb dX6_clean_42 (by decide) ?_
      refine lv_iload X.hx X.hb dX6_clean_43 (lv_at hl 5 rfl) ?_
      refine lv_iadd X.hx X.hb dX6_clean_45 ?_
      obtain ⟨hg, hf⟩ := gd_e hf
      refine g_iald X hH ⟨_, ho, rfl⟩ hg dX6_clean_46 ?_
      refine lv_iload_n X.hx X.hb dX6_clean_47 rfl (lv_at hl 1 rfl) ?_
      refine lv_icmp_ne (tgt := 77) X.hx X.hb dX6_clean_48 (by decide) (fun c10 => ?_) (fun c10 => ?_)
      · have hf := it_n hf c10
        refine lv_iinc (v := x7 + 1) (lv' := [(7, .int (x7 + 1)), (0, .ref (gad G o 0)), (1, .int x1), (2, .int x2), (3, .long x3), (5, .long x5)]) X.hx X.hb dX6_clean_77 hl (k := 5) rfl rfl (by decide) rfl (fun ls hl => ?_)
        refine lv_goto (tgt := 29) X.hx X.hb dX6_clean_80 (by decide) ?_
        exact ih _ _ _ _ _  hf _ _ _ hH hS (lv_sub hl [1, 2, 3, 4, 5, 0] rfl)
      · have hf := it_p hf c10
        refine lv_lload_n X.hx X.hb dX6_clean_51 rfl (lv_at hl 3 rfl) ?_
        refine lv_bipush (v := 10) X.hx X.hb dX6_clean_52 (by decide) ?_
        refine lv_aload_n X.hx X.hb dX6_clean_54 rfl (lv_at hl 0 rfl) ?_
        refine gfX6_19 X hH ho dX6_clean_55 ?_
        refine lv_iconst (v := 2) X.hx X.hb dX6_clean_58 (by decide) ?_
        refine lv_iload X.hx X.hb dX6_clean_59 (lv_at hl 5 rfl) ?_
        refine lv_imul X.hx X.hb dX6_clean_61 ?_
        refine lv_iconst (v := 1) X.hx X.hb dX6_clean_62 (by decide) ?_
        refine lv_iadd X.hx X.hb dX6_clean_63 ?_
        obtain ⟨hg, hf⟩ := gd_e hf
        refine g_iald X hH ⟨_, ho, rfl⟩ hg dX6_clean_64 ?_
        refine lv_isub X.hx X.hb dX6_clean_65 ?_
        refine lv_i2l X.hx X.hb dX6_clean_66 rfl ?_
        refine lv_lmul X.hx X.hb dX6_clean_67 ?_
        refine lv_lstore_n (lv' := [(3, .long (x3 * (((10 : Int32) - (mA σ o 4 (((2 : Int32) * x7) + (1 : Int32)).toNatClampNeg)).toInt64))), (0, .ref (gad G o 0)), (1, .int x1), (2, .int x2), (5, .long x5), (7, .int x7)]) X.hx X.hb dX6_clean_68 rfl hl (by decide) rfl (fun ls hl => ?_)
        refine lv_lload X.hx X.hb dX6_clean_69 (lv_at hl 4 rfl) ?_
        refine lv_ldc2 X.hx X.hb X.hown (X.w kcX6_214) dX6_clean_71 ?_
        refine lv_lmul X.hx X.hb dX6_clean_74 ?_
        refine lv_lstore (lv' := [(5, .long (x5 * (10 : Int64))), (3, .long (x3 * (((10 : Int32) - (mA σ o 4 (((2 : Int32) * x7) + (1 : Int32)).toNatClampNeg)).toInt64))), (0, .ref (gad G o 0)), (1, .int x1), (2, .int x2), (7, .int x7)]) X.hx X.hb dX6_clean_75 hl (by decide) rfl (fun ls hl => ?_)
        refine lv_iinc (v := x7 + 1) (lv' := [(7, .int (x7 + 1)), (5, .long (x5 * (10 : Int64))), (3, .long (x3 * (((10 : Int32) - (mA σ o 4 (((2 : Int32) * x7) + (1 : Int32)).toNatClampNeg)).toInt64))), (0, .ref (gad G o 0)), (1, .int x1), (2, .int x2)]) X.hx X.hb dX6_clean_77 hl (k := 5) rfl rfl (by decide) rfl (fun ls hl => ?_)
        refine lv_goto (tgt := 29) X.hx X.hb dX6_clean_80 (by decide) ?_
        exact ih _ _ _ _ _  hf _ _ _ hH hS (lv_sub hl [3, 4, 5, 2, 1, 0] rfl)
set_option maxRecDepth 20000 in
set_option maxHeartbeats 4000000 in
theorem kX6_clean (l : Launch) {G : gG} {σ : Mem} {r : Int64} {o : Nat} {x1 : Int32} {x2 : Int32} (ho : gsh G o = some 6)  (hf : fX6_clean σ o x1 x2 = some r) : CM l yX6_clean cX6_clean 8 (some .long) 2 43 G σ [.ref (gad G o 0), .int x1, .int x2] (some (.long r)) σ := by
  refine CM.of (by decide) (Nat.le_of_ble_eq_true rfl) (fun p e s m below meth c ls X hH hl => ?_)
  have X : gX p s m _ meth c yX6_clean cX6_clean 8 (some .long) RX6 G := X
  have hS : va_S (gAA G) s.heap s.heap [] := va_S.rf
  have hl : lv_has ls 8 [(0, .ref (gad G o 0)), (1, .int x1), (2, .int x2)] := hl
  rw [fX6_clean.eq_1] at hf
  refine lv_aload_n X.hx X.hb dX6_clean_0 rfl (lv_at hl 0 rfl) ?_
  refine lv_iload_n X.hx X.hb dX6_clean_1 rfl (lv_at hl 1 rfl) ?_
  obtain ⟨r11, hr, hf⟩ := bd_e hf
  refine g_callVI (As := [.int x1]) (rest := []) X (kX6_isRow l ho hr) (C := RX6) (T := TX6) (N := 39) (ci := 6) rfl ho ⟨cdX6_isRow, mlX6_178, imX6_isRow, seX6_isRow, iniX6⟩ hvX6_isRow ⟨Nat.le_of_ble_eq_true rfl, Nat.le_of_ble_eq_true rfl⟩ hH hS hl rfl rfl (Nat.le_of_ble_eq_true rfl) ⟨Nat.le_refl 0, Nat.le_refl 0⟩ dX6_clean_2 (fun H locs hH hS => ?_)
  refine lv_if_eq (tgt := 17) X.hx X.hb dX6_clean_5 (by decide) (fun c12 => ?_) (fun c12 => ?_)
  · have hf := it_p hf c12
    refine lv_ldc2 X.hx X.hb X.hown (X.w kcX6_212) dX6_clean_17 ?_
    exact g_lret X hH hS rfl (so1 hf) dX6_clean_20
  · have hf := it_n hf c12
    refine lv_iload_n X.hx X.hb dX6_clean_8 rfl (lv_at hl 2 rfl) ?_
    refine lv_iconst (v := 0) X.hx X.hb dX6_clean_9 (by decide) ?_
    refine lv_iconst (v := 1) X.hx X.hb dX6_clean_10 (by decide) ?_
    obtain ⟨r13, hr, hf⟩ := bd_e hf
    refine g_callSI (As := [.int x2, .int (0 : Int32), .int (1 : Int32)]) (rest := []) X (kX6_in l  hr) ⟨cdX6_in, mlX6_85, stX6_in, iniX6⟩ hsX6_in ⟨Nat.le_of_ble_eq_true rfl, Nat.le_of_ble_eq_true rfl⟩ hH hS hl rfl rfl (Nat.le_of_ble_eq_true rfl) ⟨Nat.le_refl 0, Nat.le_refl 0⟩ dX6_clean_11 (fun H locs hH hS => ?_)
    refine lv_if_ne (tgt := 21) X.hx X.hb dX6_clean_14 (by decide) (fun c14 => ?_) (fun c14 => ?_)
    · have hf := it_n hf c14
      refine lv_lconst (v := 1) X.hx X.hb dX6_clean_21 (by decide) ?_
      refine lv_lstore_n (lv' := [(3, .long (1 : Int64)), (0, .ref (gad G o 0)), (1, .int x1), (2, .int x2)]) X.hx X.hb dX6_clean_22 rfl hl (by decide) rfl (fun ls hl => ?_)
      refine lv_lconst (v := 1) X.hx X.hb dX6_clean_23 (by decide) ?_
      refine lv_lstore (lv' := [(5, .long (1 : Int64)), (3, .long (1 : Int64)), (0, .ref (gad G o 0)), (1, .int x1), (2, .int x2)]) X.hx X.hb dX6_clean_24 hl (by decide) rfl (fun ls hl => ?_)
      refine lv_iconst (v := 0) X.hx X.hb dX6_clean_26 (by decide) ?_
      refine lv_istore (lv' := [(7, .int (0 : Int32)), (5, .long (1 : Int64)), (3, .long (1 : Int64)), (0, .ref (gad G o 0)), (1, .int x1), (2, .int x2)]) X.hx X.hb dX6_clean_27 hl (by decide) rfl (fun ls hl => ?_)
      exact bX6_clean_29 X  ho  _ _ _ _ _ _  hf _ _ _ hH hS (lv_sub hl [3, 4, 5, 2, 1, 0] rfl)
    · have hf := it_p hf c14
      refine lv_ldc2 X.hx X.hb X.hown (X.w kcX6_212) dX6_clean_17 ?_
      exact g_lret X hH hS rfl (so1 hf) dX6_clean_20
set_option maxRecDepth 20000 in
set_option maxHeartbeats 4000000 in
theorem bX6_findSick_54 {p : Program} {l : Launch} {e : Env} {s : State} {m : MethodId} {args : Array Value} {below : List Frame} {meth : Method} {c : Code} {G : gG} (X : gX p s m args meth c yX6_findSick cX6_findSick 5 none RX6 G) {o : Nat} (ho : gsh G o = some 6)  {σ' : Mem} {k31 : Mem → Int32 → Int32 → Option Mem} (hk31 : (∀ (σ : Mem) (x1 : Int32) (x2 : Int32), k31 σ x1 x2 = some σ' → ∀ (H : Heap) (locs : List Loc) (ls : Array Slot), gH G σ H → va_S (gAA G) s.heap H locs → lv_has ls 5 [(0, .ref (gad G o 0)), (1, .int x1), (2, .int x2)] → WB p l e 0 0 s m args below meth c G none σ' H locs (F0 m 31 ls []))) : (∀ (n : Nat) (σ : Mem) (x1 : Int32) (x2 : Int32) (x3 : Int32) (x4 : Int32), fX6_findSick_54 k31 o n σ x1 x2 x3 x4 = some σ' → ∀ (H : Heap) (locs : List Loc) (ls : Array Slot), gH G σ H → va_S (gAA G) s.heap H locs → lv_has ls 5 [(0, .ref (gad G o 0)), (1, .int x1), (2, .int x2), (3, .int x3), (4, .int x4)] → WB p l e 0 0 s m args below meth c G none σ' H locs (F0 m 54 ls [])) := by
  intro n
  induction n with
  | zero => intro σ x1 x2 x3 x4 hf H locs ls hH hS hl; exact nomatch (show (none : Option Mem) = some _ from hf)
  | succ n ih =>
    intro σ x1 x2 x3 x4 hf H locs ls hH hS hl
    rw [fX6_findSick_54.eq_2] at hf
    refine lv_iload X.hx X.hb dX6_findSick_54 (lv_at hl 4 rfl) ?_
    refine lv_if_lt (tgt := 112) X.hx X.hb dX6_findSick_56 (by decide) (fun c11 => ?_) (fun c11 => ?_)
    · have hf := it_p hf c11
      refine lv_iinc (v := x2 + 1) (lv' := [(2, .int (x2 + 1)), (0, .ref (gad G o 0)), (1, .int x1), (3, .int x3), (4, .int x4)]) X.hx X.hb dX6_findSick_112 hl (k := 2) rfl rfl (by decide) rfl (fun ls hl => ?_)
      refine lv_goto (tgt := 31) X.hx X.hb dX6_findSick_115 (by decide) ?_
      exact hk31 _ _ _  hf _ _ _ hH hS (lv_sub hl [1, 2, 0] rfl)
    · have hf := it_n hf c11
      refine lv_iload_n X.hx X.hb dX6_findSick_59 rfl (lv_at hl 2 rfl) ?_
      refine lv_iload_n X.hx X.hb dX6_findSick_60 rfl (lv_at hl 1 rfl) ?_
      refine lv_icmp_eq (tgt := 112) X.hx X.hb dX6_findSick_61 (by decide) (fun c12 => ?_) (fun c12 => ?_)
      · have hf := it_p hf c12
        refine lv_iinc (v := x2 + 1) (lv' := [(2, .int (x2 + 1)), (0, .ref (gad G o 0)), (1, .int x1), (3, .int x3), (4, .int x4)]) X.hx X.hb dX6_findSick_112 hl (k := 2) rfl rfl (by decide) rfl (fun ls hl => ?_)
        refine lv_goto (tgt := 31) X.hx X.hb dX6_findSick_115 (by decide) ?_
        exact hk31 _ _ _  hf _ _ _ hH hS (lv_sub hl [1, 2, 0] rfl)
      · have hf := it_n hf c12
        refine lv_aload_n X.hx X.hb dX6_findSick_64 rfl (lv_at hl 0 rfl) ?_
        refine gfX6_69 X hH ho dX6_findSick_65 ?_
        refine lv_iload X.hx X.hb dX6_findSick_68 (lv_at hl 4 rfl) ?_
        refine lv_aload_n X.hx X.hb dX6_findSick_70 rfl (lv_at hl 0 rfl) ?_
        refine gfX6_69 X hH ho dX6_findSick_71 ?_
        refine lv_iload X.hx X.hb dX6_findSick_74 (lv_at hl 4 rfl) ?_
        obtain ⟨hg, hf⟩ := gd_e hf
        refine g_lald X hH ⟨_, ho, rfl⟩ hg dX6_findSick_76 ?_
        refine lv_bipush (v := 10) X.hx X.hb dX6_findSick_77 (by decide) ?_
        refine lv_iload_n X.hx X.hb dX6_findSick_79 rfl (lv_at hl 3 rfl) ?_
        refine lv_isub X.hx X.hb dX6_findSick_80 ?_
        refine lv_i2l X.hx X.hb dX6_findSick_81 rfl ?_
        refine lv_lmul X.hx X.hb dX6_findSick_82 ?_
        refine lv_iload X.hx X.hb dX6_findSick_83 (lv_at hl 4 rfl) ?_
        refine lv_if_ne (tgt := 92) X.hx X.hb dX6_findSick_85 (by decide) (fun c13 => ?_) (fun c13 => ?_)
        · have hf := it_n hf c13
          refine lv_aload_n X.hx X.hb dX6_findSick_92 rfl (lv_at hl 0 rfl) ?_
          refine gfX6_69 X hH ho dX6_findSick_93 ?_
          refine lv_iload X.hx X.hb dX6_findSick_96 (lv_at hl 4 rfl) ?_
          refine lv_iconst (v := 1) X.hx X.hb dX6_findSick_98 (by decide) ?_
          refine lv_isub X.hx X.hb dX6_findSick_99 ?_
          obtain ⟨hg, hf⟩ := gd_e hf
          refine g_lald X hH ⟨_, ho, rfl⟩ hg dX6_findSick_100 ?_
          refine lv_iload_n X.hx X.hb dX6_findSick_101 rfl (lv_at hl 3 rfl) ?_
          refine lv_i2l X.hx X.hb dX6_findSick_102 rfl ?_
          refine lv_lmul X.hx X.hb dX6_findSick_103 ?_
          refine lv_ladd X.hx X.hb dX6_findSick_104 ?_
          obtain ⟨hg, hf⟩ := gd_e hf
          refine g_last X hH hS ⟨_, ho, rfl⟩ hg dX6_findSick_105 (fun H locs hH hS => ?_)
          obtain ⟨σ14, he, hf⟩ := stp_e hf
          rw [← he] at hH
          clear he
          refine lv_iinc (v := x4 + (-1)) (lv' := [(4, .int (x4 + (-1))), (0, .ref (gad G o 0)), (1, .int x1), (2, .int x2), (3, .int x3)]) X.hx X.hb dX6_findSick_106 hl (k := 4) rfl rfl (by decide) rfl (fun ls hl => ?_)
          refine lv_goto (tgt := 54) X.hx X.hb dX6_findSick_109 (by decide) ?_
          exact ih _ _ _ _ _  hf _ _ _ hH hS (lv_sub hl [1, 2, 3, 4, 0] rfl)
        · have hf := it_p hf c13
          refine lv_lconst (v := 0) X.hx X.hb dX6_findSick_88 (by decide) ?_
          refine lv_goto (tgt := 104) X.hx X.hb dX6_findSick_89 (by decide) ?_
          refine lv_ladd X.hx X.hb dX6_findSick_104 ?_
          obtain ⟨hg, hf⟩ := gd_e hf
          refine g_last X hH hS ⟨_, ho, rfl⟩ hg dX6_findSick_105 (fun H locs hH hS => ?_)
          obtain ⟨σ15, he, hf⟩ := stp_e hf
          rw [← he] at hH
          clear he
          refine lv_iinc (v := x4 + (-1)) (lv' := [(4, .int (x4 + (-1))), (0, .ref (gad G o 0)), (1, .int x1), (2, .int x2), (3, .int x3)]) X.hx X.hb dX6_findSick_106 hl (k := 4) rfl rfl (by decide) rfl (fun ls hl => ?_)
          refine lv_goto (tgt := 54) X.hx X.hb dX6_findSick_109 (by decide) ?_
          exact ih _ _ _ _ _  hf _ _ _ hH hS (lv_sub hl [1, 2, 3, 4, 0] rfl)
set_option maxRecDepth 20000 in
set_option maxHeartbeats 4000000 in
theorem bX6_findSick_31 {p : Program} {l : Launch} {e : Env} {s : State} {m : MethodId} {args : Array Value} {below : List Frame} {meth : Method} {c : Code} {G : gG} (X : gX p s m args meth c yX6_findSick cX6_findSick 5 none RX6 G) {o : Nat} (ho : gsh G o = some 6)  {σ' : Mem} : (∀ (n : Nat) (σ : Mem) (x1 : Int32) (x2 : Int32), fX6_findSick_31 o n σ x1 x2 = some σ' → ∀ (H : Heap) (locs : List Loc) (ls : Array Slot), gH G σ H → va_S (gAA G) s.heap H locs → lv_has ls 5 [(0, .ref (gad G o 0)), (1, .int x1), (2, .int x2)] → WB p l e 0 0 s m args below meth c G none σ' H locs (F0 m 31 ls [])) := by
  intro n
  induction n with
  | zero => intro σ x1 x2 hf H locs ls hH hS hl; exact nomatch (show (none : Option Mem) = some _ from hf)
  | succ n ih =>
    intro σ x1 x2 hf H locs ls hH hS hl
    rw [fX6_findSick_31.eq_2] at hf
    refine lv_iload_n X.hx X.hb dX6_findSick_31 rfl (lv_at hl 2 rfl) ?_
    refine lv_aload_n X.hx X.hb dX6_findSick_32 rfl (lv_at hl 0 rfl) ?_
    refine gfX6_82 X hH ho dX6_findSick_33 ?_
    refine lv_icmp_ge (tgt := 118) X.hx X.hb dX6_findSick_36 (by decide) (fun c16 => ?_) (fun c16 => ?_)
    · have hf := it_p hf c16
      have e := so1 hf
      rw [e] at hH
      exact g_vret X hH hS rfl dX6_findSick_118
    · have hf := it_n hf c16
      refine lv_aload_n X.hx X.hb dX6_findSick_39 rfl (lv_at hl 0 rfl) ?_
      refine gfX6_19 X hH ho dX6_findSick_40 ?_
      refine lv_iconst (v := 2) X.hx X.hb dX6_findSick_43 (by decide) ?_
      refine lv_iload_n X.hx X.hb dX6_findSick_44 rfl (lv_at hl 2 rfl) ?_
      refine lv_imul X.hx X.hb dX6_findSick_45 ?_
      refine lv_iconst (v := 1) X.hx X.hb dX6_findSick_46 (by decide) ?_
      refine lv_iadd X.hx X.hb dX6_findSick_47 ?_
      obtain ⟨hg, hf⟩ := gd_e hf
      refine g_iald X hH ⟨_, ho, rfl⟩ hg dX6_findSick_48 ?_
      refine lv_istore_n (lv' := [(3, .int (mA σ o 4 (((2 : Int32) * x2) + (1 : Int32)).toNatClampNeg)), (0, .ref (gad G o 0)), (1, .int x1), (2, .int x2)]) X.hx X.hb dX6_findSick_49 rfl hl (by decide) rfl (fun ls hl => ?_)
      refine lv_bipush (v := 6) X.hx X.hb dX6_findSick_50 (by decide) ?_
      refine lv_istore (lv' := [(4, .int (6 : Int32)), (3, .int (mA σ o 4 (((2 : Int32) * x2) + (1 : Int32)).toNatClampNeg)), (0, .ref (gad G o 0)), (1, .int x1), (2, .int x2)]) X.hx X.hb dX6_findSick_52 hl (by decide) rfl (fun ls hl => ?_)
      exact bX6_findSick_54 X  ho ih _ _ _ _ _ _  hf _ _ _ hH hS (lv_sub hl [2, 3, 4, 1, 0] rfl)
set_option maxRecDepth 20000 in
set_option maxHeartbeats 4000000 in
theorem bX6_findSick_2 {p : Program} {l : Launch} {e : Env} {s : State} {m : MethodId} {args : Array Value} {below : List Frame} {meth : Method} {c : Code} {G : gG} (X : gX p s m args meth c yX6_findSick cX6_findSick 5 none RX6 G) {o : Nat} (ho : gsh G o = some 6)  {σ' : Mem} : (∀ (n : Nat) (σ : Mem) (x1 : Int32) (x2 : Int32), fX6_findSick_2 o n σ x1 x2 = some σ' → ∀ (H : Heap) (locs : List Loc) (ls : Array Slot), gH G σ H → va_S (gAA G) s.heap H locs → lv_has ls 5 [(0, .ref (gad G o 0)), (1, .int x1), (2, .int x2)] → WB p l e 0 0 s m args below meth c G none σ' H locs (F0 m 2 ls [])) := by
  intro n
  induction n with
  | zero => intro σ x1 x2 hf H locs ls hH hS hl; exact nomatch (show (none : Option Mem) = some _ from hf)
  | succ n ih =>
    intro σ x1 x2 hf H locs ls hH hS hl
    rw [fX6_findSick_2.eq_2] at hf
    refine lv_iload_n X.hx X.hb dX6_findSick_2 rfl (lv_at hl 2 rfl) ?_
    refine lv_bipush (v := 7) X.hx X.hb dX6_findSick_3 (by decide) ?_
    refine lv_icmp_ge (tgt := 29) X.hx X.hb dX6_findSick_5 (by decide) (fun c17 => ?_) (fun c17 => ?_)
    · have hf := it_p hf c17
      refine lv_iconst (v := 0) X.hx X.hb dX6_findSick_29 (by decide) ?_
      refine lv_istore_n (lv' := [(2, .int (0 : Int32)), (0, .ref (gad G o 0)), (1, .int x1)]) X.hx X.hb dX6_findSick_30 rfl hl (by decide) rfl (fun ls hl => ?_)
      exact bX6_findSick_31 X  ho  _ _ _ _  hf _ _ _ hH hS (lv_sub hl [1, 2, 0] rfl)
    · have hf := it_n hf c17
      refine lv_aload_n X.hx X.hb dX6_findSick_8 rfl (lv_at hl 0 rfl) ?_
      refine gfX6_69 X hH ho dX6_findSick_9 ?_
      refine lv_iload_n X.hx X.hb dX6_findSick_12 rfl (lv_at hl 2 rfl) ?_
      refine lv_iload_n X.hx X.hb dX6_findSick_13 rfl (lv_at hl 2 rfl) ?_
      refine lv_if_ne (tgt := 21) X.hx X.hb dX6_findSick_14 (by decide) (fun c18 => ?_) (fun c18 => ?_)
      · have hf := it_n hf c18
        refine lv_lconst (v := 0) X.hx X.hb dX6_findSick_21 (by decide) ?_
        obtain ⟨hg, hf⟩ := gd_e hf
        refine g_last X hH hS ⟨_, ho, rfl⟩ hg dX6_findSick_22 (fun H locs hH hS => ?_)
        obtain ⟨σ19, he, hf⟩ := stp_e hf
        rw [← he] at hH
        clear he
        refine lv_iinc (v := x2 + 1) (lv' := [(2, .int (x2 + 1)), (0, .ref (gad G o 0)), (1, .int x1)]) X.hx X.hb dX6_findSick_23 hl (k := 2) rfl rfl (by decide) rfl (fun ls hl => ?_)
        refine lv_goto (tgt := 2) X.hx X.hb dX6_findSick_26 (by decide) ?_
        exact ih _ _ _  hf _ _ _ hH hS (lv_sub hl [1, 2, 0] rfl)
      · have hf := it_p hf c18
        refine lv_lconst (v := 1) X.hx X.hb dX6_findSick_17 (by decide) ?_
        refine lv_goto (tgt := 22) X.hx X.hb dX6_findSick_18 (by decide) ?_
        obtain ⟨hg, hf⟩ := gd_e hf
        refine g_last X hH hS ⟨_, ho, rfl⟩ hg dX6_findSick_22 (fun H locs hH hS => ?_)
        obtain ⟨σ20, he, hf⟩ := stp_e hf
        rw [← he] at hH
        clear he
        refine lv_iinc (v := x2 + 1) (lv' := [(2, .int (x2 + 1)), (0, .ref (gad G o 0)), (1, .int x1)]) X.hx X.hb dX6_findSick_23 hl (k := 2) rfl rfl (by decide) rfl (fun ls hl => ?_)
        refine lv_goto (tgt := 2) X.hx X.hb dX6_findSick_26 (by decide) ?_
        exact ih _ _ _  hf _ _ _ hH hS (lv_sub hl [1, 2, 0] rfl)
set_option maxRecDepth 20000 in
set_option maxHeartbeats 4000000 in
theorem kX6_findSick (l : Launch) {G : gG} {σ : Mem} {σ' : Mem} {o : Nat} {x1 : Int32} (ho : gsh G o = some 6)  (hf : fX6_findSick σ o x1 = some σ') : CM l yX6_findSick cX6_findSick 5 none 0 0 G σ [.ref (gad G o 0), .int x1] none σ' := by
  refine CM.of (by decide) (Nat.le_of_ble_eq_true rfl) (fun p e s m below meth c ls X hH hl => ?_)
  have X : gX p s m _ meth c yX6_findSick cX6_findSick 5 none RX6 G := X
  have hS : va_S (gAA G) s.heap s.heap [] := va_S.rf
  have hl : lv_has ls 5 [(0, .ref (gad G o 0)), (1, .int x1)] := hl
  rw [fX6_findSick.eq_1] at hf
  refine lv_iconst (v := 0) X.hx X.hb dX6_findSick_0 (by decide) ?_
  refine lv_istore_n (lv' := [(2, .int (0 : Int32)), (0, .ref (gad G o 0)), (1, .int x1)]) X.hx X.hb dX6_findSick_1 rfl hl (by decide) rfl (fun ls hl => ?_)
  exact bX6_findSick_2 X  ho  _ _ _ _  hf _ _ _ hH hS (lv_sub hl [1, 2, 0] rfl)
set_option maxRecDepth 20000 in
set_option maxHeartbeats 4000000 in
theorem kX6_well (l : Launch) {G : gG} {σ : Mem} {r : Int64} {σ' : Mem} {o : Nat} {x1 : Int32} {x2 : Int32} {x3 : Int32} (ho : gsh G o = some 6)  (hf : fX6_well σ o x1 x2 x3 = some (r, σ')) : CM l yX6_well cX6_well 8 (some .long) 2 43 G σ [.ref (gad G o 0), .int x1, .int x2, .int x3] (some (.long r)) σ' := by
  refine CM.of (by decide) (Nat.le_of_ble_eq_true rfl) (fun p e s m below meth c ls X hH hl => ?_)
  have X : gX p s m _ meth c yX6_well cX6_well 8 (some .long) RX6 G := X
  have hS : va_S (gAA G) s.heap s.heap [] := va_S.rf
  have hl : lv_has ls 8 [(0, .ref (gad G o 0)), (1, .int x1), (2, .int x2), (3, .int x3)] := hl
  rw [fX6_well.eq_1] at hf
  refine lv_aload_n X.hx X.hb dX6_well_0 rfl (lv_at hl 0 rfl) ?_
  refine lv_iload_n X.hx X.hb dX6_well_1 rfl (lv_at hl 1 rfl) ?_
  obtain ⟨r11, hr, hf⟩ := bd_e hf
  refine g_callVI (As := [.int x1]) (rest := []) X (kX6_isTraveller l ho hr) (C := RX6) (T := TX6) (N := 39) (ci := 6) rfl ho ⟨cdX6_isTraveller, mlX6_158, imX6_isTraveller, seX6_isTraveller, iniX6⟩ hvX6_isTraveller ⟨Nat.le_of_ble_eq_true rfl, Nat.le_of_ble_eq_true rfl⟩ hH hS hl rfl rfl (Nat.le_of_ble_eq_true rfl) ⟨Nat.le_refl 0, Nat.le_refl 0⟩ dX6_well_2 (fun H locs hH hS => ?_)
  refine lv_if_eq (tgt := 27) X.hx X.hb dX6_well_5 (by decide) (fun c12 => ?_) (fun c12 => ?_)
  · have hf := it_p hf c12
    refine lv_ldc2 X.hx X.hb X.hown (X.w kcX6_212) dX6_well_27 ?_
    have e := so2 hf
    rw [e.2] at hH
    exact g_lret X hH hS rfl e.1 dX6_well_30
  · have hf := it_n hf c12
    refine lv_iload_n X.hx X.hb dX6_well_8 rfl (lv_at hl 2 rfl) ?_
    refine lv_iconst (v := 0) X.hx X.hb dX6_well_9 (by decide) ?_
    refine lv_bipush (v := 6) X.hx X.hb dX6_well_10 (by decide) ?_
    obtain ⟨r13, hr, hf⟩ := bd_e hf
    refine g_callSI (As := [.int x2, .int (0 : Int32), .int (6 : Int32)]) (rest := []) X (kX6_in l  hr) ⟨cdX6_in, mlX6_85, stX6_in, iniX6⟩ hsX6_in ⟨Nat.le_of_ble_eq_true rfl, Nat.le_of_ble_eq_true rfl⟩ hH hS hl rfl rfl (Nat.le_of_ble_eq_true rfl) ⟨Nat.le_refl 0, Nat.le_refl 0⟩ dX6_well_12 (fun H locs hH hS => ?_)
    refine lv_if_eq (tgt := 27) X.hx X.hb dX6_well_15 (by decide) (fun c14 => ?_) (fun c14 => ?_)
    · have hf := it_p hf c14
      refine lv_ldc2 X.hx X.hb X.hown (X.w kcX6_212) dX6_well_27 ?_
      have e := so2 hf
      rw [e.2] at hH
      exact g_lret X hH hS rfl e.1 dX6_well_30
    · have hf := it_n hf c14
      refine lv_iload_n X.hx X.hb dX6_well_18 rfl (lv_at hl 3 rfl) ?_
      refine lv_iconst (v := 0) X.hx X.hb dX6_well_19 (by decide) ?_
      refine lv_iconst (v := 1) X.hx X.hb dX6_well_20 (by decide) ?_
      obtain ⟨r15, hr, hf⟩ := bd_e hf
      refine g_callSI (As := [.int x3, .int (0 : Int32), .int (1 : Int32)]) (rest := []) X (kX6_in l  hr) ⟨cdX6_in, mlX6_85, stX6_in, iniX6⟩ hsX6_in ⟨Nat.le_of_ble_eq_true rfl, Nat.le_of_ble_eq_true rfl⟩ hH hS hl rfl rfl (Nat.le_of_ble_eq_true rfl) ⟨Nat.le_refl 0, Nat.le_refl 0⟩ dX6_well_21 (fun H locs hH hS => ?_)
      refine lv_if_ne (tgt := 31) X.hx X.hb dX6_well_24 (by decide) (fun c16 => ?_) (fun c16 => ?_)
      · have hf := it_n hf c16
        refine lv_aload_n X.hx X.hb dX6_well_31 rfl (lv_at hl 0 rfl) ?_
        refine lv_iload_n X.hx X.hb dX6_well_32 rfl (lv_at hl 1 rfl) ?_
        obtain ⟨σ17, hr, hf⟩ := bd_e hf
        refine g_callVV (As := [.int x1]) (rest := []) X (kX6_findSick l ho hr) (C := RX6) (T := TX6) (N := 39) (ci := 6) rfl ho ⟨cdX6_findSick, mlX6_220, imX6_findSick, seX6_findSick, iniX6⟩ hvX6_findSick ⟨Nat.le_of_ble_eq_true rfl, Nat.le_of_ble_eq_true rfl⟩ hH hS hl rfl rfl (Nat.le_of_ble_eq_true rfl) ⟨Nat.le_refl 0, Nat.le_refl 0⟩ dX6_well_33 (fun H locs hH hS => ?_)
        refine lv_aload_n X.hx X.hb dX6_well_36 rfl (lv_at hl 0 rfl) ?_
        refine gfX6_69 X hH ho dX6_well_37 ?_
        refine lv_iload_n X.hx X.hb dX6_well_40 rfl (lv_at hl 2 rfl) ?_
        obtain ⟨hg, hf⟩ := gd_e hf
        refine g_lald X hH ⟨_, ho, rfl⟩ hg dX6_well_41 ?_
        refine lv_bipush (v := 10) X.hx X.hb dX6_well_42 (by decide) ?_
        refine lv_aload_n X.hx X.hb dX6_well_44 rfl (lv_at hl 0 rfl) ?_
        refine gfX6_19 X hH ho dX6_well_45 ?_
        refine lv_iconst (v := 2) X.hx X.hb dX6_well_48 (by decide) ?_
        refine lv_iload_n X.hx X.hb dX6_well_49 rfl (lv_at hl 1 rfl) ?_
        refine lv_imul X.hx X.hb dX6_well_50 ?_
        refine lv_iconst (v := 1) X.hx X.hb dX6_well_51 (by decide) ?_
        refine lv_iadd X.hx X.hb dX6_well_52 ?_
        obtain ⟨hg, hf⟩ := gd_e hf
        refine g_iald X hH ⟨_, ho, rfl⟩ hg dX6_well_53 ?_
        refine lv_isub X.hx X.hb dX6_well_54 ?_
        refine lv_i2l X.hx X.hb dX6_well_55 rfl ?_
        refine lv_lmul X.hx X.hb dX6_well_56 ?_
        refine lv_lstore (lv' := [(4, .long ((mB σ17 o 34 x2.toNatClampNeg) * (((10 : Int32) - (mA σ17 o 4 (((2 : Int32) * x1) + (1 : Int32)).toNatClampNeg)).toInt64))), (0, .ref (gad G o 0)), (1, .int x1), (2, .int x2), (3, .int x3)]) X.hx X.hb dX6_well_57 hl (by decide) rfl (fun ls hl => ?_)
        refine lv_aload_n X.hx X.hb dX6_well_59 rfl (lv_at hl 1 rfl) ?_
        refine lv_bipush (v := -9) X.hx X.hb dX6_well_60 (by decide) ?_
        obtain ⟨σ18, hr, hf⟩ := bd_e hf
        refine g_callVV (As := [.int (-9 : Int32)]) (rest := []) X (kX6_findSick l ho hr) (C := RX6) (T := TX6) (N := 39) (ci := 6) rfl ho ⟨cdX6_findSick, mlX6_220, imX6_findSick, seX6_findSick, iniX6⟩ hvX6_findSick ⟨Nat.le_of_ble_eq_true rfl, Nat.le_of_ble_eq_true rfl⟩ hH hS hl rfl rfl (Nat.le_of_ble_eq_true rfl) ⟨Nat.le_refl 0, Nat.le_refl 0⟩ dX6_well_62 (fun H locs hH hS => ?_)
        refine lv_aload_n X.hx X.hb dX6_well_65 rfl (lv_at hl 1 rfl) ?_
        refine gfX6_69 X hH ho dX6_well_66 ?_
        refine lv_iload_n X.hx X.hb dX6_well_69 rfl (lv_at hl 3 rfl) ?_
        obtain ⟨hg, hf⟩ := gd_e hf
        refine g_lald X hH ⟨_, ho, rfl⟩ hg dX6_well_70 ?_
        refine lv_lstore (lv' := [(6, .long (mB σ18 o 34 x2.toNatClampNeg)), (4, .long ((mB σ17 o 34 x2.toNatClampNeg) * (((10 : Int32) - (mA σ17 o 4 (((2 : Int32) * x1) + (1 : Int32)).toNatClampNeg)).toInt64))), (0, .ref (gad G o 0)), (1, .int x1), (2, .int x2), (3, .int x3)]) X.hx X.hb dX6_well_71 hl (by decide) rfl (fun ls hl => ?_)
        refine lv_lload X.hx X.hb dX6_well_73 (lv_at hl 0 rfl) ?_
        refine lv_lconst (v := 0) X.hx X.hb dX6_well_75 (by decide) ?_
        refine W.lcmp X.hx X.hb dX6_well_76 ?_
        refine lv_if_ne (tgt := 86) X.hx X.hb dX6_well_77 (by decide) (fun c19 => ?_) (fun c19 => ?_)
        · have hf := it_n hf c19
          refine lv_lload X.hx X.hb dX6_well_86 (lv_at hl 1 rfl) ?_
          refine lv_lload X.hx X.hb dX6_well_88 (lv_at hl 0 rfl) ?_
          refine lv_iload_n X.hx X.hb dX6_well_90 rfl (lv_at hl 5 rfl) ?_
          obtain ⟨r20, hr, hf⟩ := bd_e hf
          refine g_callSL (As := [.long ((mB σ17 o 34 x2.toNatClampNeg) * (((10 : Int32) - (mA σ17 o 4 (((2 : Int32) * x1) + (1 : Int32)).toNatClampNeg)).toInt64)), .long (mB σ18 o 34 x2.toNatClampNeg), .int x3]) (rest := []) X (kX6_share l  hr) ⟨cdX6_share, mlX6_216, stX6_share, iniX6⟩ hsX6_share ⟨Nat.le_of_ble_eq_true rfl, Nat.le_of_ble_eq_true rfl⟩ hH hS hl rfl rfl (Nat.le_of_ble_eq_true rfl) ⟨Nat.le_refl 0, Nat.le_refl 0⟩ dX6_well_91 (fun H locs hH hS => ?_)
          have e := so2 hf
          rw [e.2] at hH
          exact g_lret X hH hS rfl e.1 dX6_well_94
        · have hf := it_p hf c19
          refine lv_ldc2 X.hx X.hb X.hown (X.w kcX6_223) dX6_well_80 ?_
          refine lv_goto (tgt := 94) X.hx X.hb dX6_well_83 (by decide) ?_
          have e := so2 hf
          rw [e.2] at hH
          exact g_lret X hH hS rfl e.1 dX6_well_94
      · have hf := it_p hf c16
        refine lv_ldc2 X.hx X.hb X.hown (X.w kcX6_212) dX6_well_27 ?_
        have e := so2 hf
        rw [e.2] at hH
        exact g_lret X hH hS rfl e.1 dX6_well_30
set_option maxRecDepth 20000 in
set_option maxHeartbeats 4000000 in
theorem kX6_writes (l : Launch) {G : gG} {σ : Mem} {r : Int32} {σ' : Mem} {o : Nat} {x1 : Int32} (ho : gsh G o = some 6)  (hf : fX6_writes σ o x1 = some (r, σ')) : CM l yX6_writes cX6_writes 2 (some .int) 1 22 G σ [.ref (gad G o 0), .int x1] (some (.int r)) σ' := by
  refine CM.of (by decide) (Nat.le_of_ble_eq_true rfl) (fun p e s m below meth c ls X hH hl => ?_)
  have X : gX p s m _ meth c yX6_writes cX6_writes 2 (some .int) RX6 G := X
  have hS : va_S (gAA G) s.heap s.heap [] := va_S.rf
  have hl : lv_has ls 2 [(0, .ref (gad G o 0)), (1, .int x1)] := hl
  rw [fX6_writes.eq_1] at hf
  refine lv_iload_n X.hx X.hb dX6_writes_0 rfl (lv_at hl 1 rfl) ?_
  refine lv_iconst (v := 0) X.hx X.hb dX6_writes_1 (by decide) ?_
  refine lv_bipush (v := 9) X.hx X.hb dX6_writes_2 (by decide) ?_
  obtain ⟨r7, hr, hf⟩ := bd_e hf
  refine g_callSI (As := [.int x1, .int (0 : Int32), .int (9 : Int32)]) (rest := []) X (kX6_in l  hr) ⟨cdX6_in, mlX6_85, stX6_in, iniX6⟩ hsX6_in ⟨Nat.le_of_ble_eq_true rfl, Nat.le_of_ble_eq_true rfl⟩ hH hS hl rfl rfl (Nat.le_of_ble_eq_true rfl) ⟨Nat.le_refl 0, Nat.le_refl 0⟩ dX6_writes_4 (fun H locs hH hS => ?_)
  refine lv_if_ne (tgt := 12) X.hx X.hb dX6_writes_7 (by decide) (fun c8 => ?_) (fun c8 => ?_)
  · have hf := it_n hf c8
    refine lv_aload_n X.hx X.hb dX6_writes_12 rfl (lv_at hl 0 rfl) ?_
    refine gfX6_26 X hH ho dX6_writes_13 ?_
    refine lv_bipush (v := 20) X.hx X.hb dX6_writes_16 (by decide) ?_
    obtain ⟨hg, hf⟩ := gd_e hf
    refine g_iald X hH ⟨_, ho, rfl⟩ hg dX6_writes_18 ?_
    refine lv_iconst (v := 5) X.hx X.hb dX6_writes_19 (by decide) ?_
    refine lv_icmp_ne (tgt := 26) X.hx X.hb dX6_writes_20 (by decide) (fun c9 => ?_) (fun c9 => ?_)
    · have hf := it_n hf c9
      refine lv_aload_n X.hx X.hb dX6_writes_26 rfl (lv_at hl 0 rfl) ?_
      obtain ⟨σ10, hr, hf⟩ := bd_e hf
      refine g_callVV (As := []) (rest := []) X (kX6_remembers l ho hr) (C := RX6) (T := TX6) (N := 39) (ci := 6) rfl ho ⟨cdX6_remembers, mlX6_181, imX6_remembers, seX6_remembers, iniX6⟩ hvX6_remembers ⟨Nat.le_of_ble_eq_true rfl, Nat.le_of_ble_eq_true rfl⟩ hH hS hl rfl rfl (Nat.le_of_ble_eq_true rfl) ⟨Nat.le_refl 0, Nat.le_refl 0⟩ dX6_writes_27 (fun H locs hH hS => ?_)
      refine lv_aload_n X.hx X.hb dX6_writes_30 rfl (lv_at hl 0 rfl) ?_
      refine gfX6_26 X hH ho dX6_writes_31 ?_
      refine lv_bipush (v := 21) X.hx X.hb dX6_writes_34 (by decide) ?_
      refine lv_aload_n X.hx X.hb dX6_writes_36 rfl (lv_at hl 0 rfl) ?_
      refine gfX6_26 X hH ho dX6_writes_37 ?_
      refine lv_bipush (v := 20) X.hx X.hb dX6_writes_40 (by decide) ?_
      obtain ⟨hg, hf⟩ := gd_e hf
      refine g_iald X hH ⟨_, ho, rfl⟩ hg dX6_writes_42 ?_
      refine lv_iadd X.hx X.hb dX6_writes_43 ?_
      refine lv_iload_n X.hx X.hb dX6_writes_44 rfl (lv_at hl 1 rfl) ?_
      obtain ⟨hg, hf⟩ := gd_e hf
      refine g_iast X hH hS ⟨_, ho, rfl⟩ hg dX6_writes_45 (fun H locs hH hS => ?_)
      obtain ⟨σ11, he, hf⟩ := stp_e hf
      rw [← he] at hH
      clear he
      refine lv_aload_n X.hx X.hb dX6_writes_46 rfl (lv_at hl 0 rfl) ?_
      refine gfX6_26 X hH ho dX6_writes_47 ?_
      refine lv_bipush (v := 20) X.hx X.hb dX6_writes_50 (by decide) ?_
      refine lv_dup2_11 X.hx X.hb dX6_writes_52 rfl rfl ?_
      obtain ⟨hg, hf⟩ := gd_e hf
      refine g_iald X hH ⟨_, ho, rfl⟩ hg dX6_writes_53 ?_
      refine lv_iconst (v := 1) X.hx X.hb dX6_writes_54 (by decide) ?_
      refine lv_iadd X.hx X.hb dX6_writes_55 ?_
      obtain ⟨hg, hf⟩ := gd_e hf
      refine g_iast X hH hS ⟨_, ho, rfl⟩ hg dX6_writes_56 (fun H locs hH hS => ?_)
      obtain ⟨σ12, he, hf⟩ := stp_e hf
      rw [← he] at hH
      clear he
      refine lv_aload_n X.hx X.hb dX6_writes_57 rfl (lv_at hl 0 rfl) ?_
      refine gfX6_26 X hH ho dX6_writes_58 ?_
      refine lv_bipush (v := 20) X.hx X.hb dX6_writes_61 (by decide) ?_
      obtain ⟨hg, hf⟩ := gd_e hf
      refine g_iald X hH ⟨_, ho, rfl⟩ hg dX6_writes_63 ?_
      have e := so2 hf
      rw [e.2] at hH
      exact g_iret X hH hS rfl e.1 dX6_writes_64
    · have hf := it_p hf c9
      refine lv_bipush (v := -3) X.hx X.hb dX6_writes_23 (by decide) ?_
      have e := so2 hf
      rw [e.2] at hH
      exact g_iret X hH hS rfl e.1 dX6_writes_25
  · have hf := it_p hf c8
    refine lv_iconst (v := -1) X.hx X.hb dX6_writes_10 (by decide) ?_
    have e := so2 hf
    rw [e.2] at hH
    exact g_iret X hH hS rfl e.1 dX6_writes_11
set_option maxRecDepth 20000 in
set_option maxHeartbeats 4000000 in
theorem bX6_tears_14 {p : Program} {l : Launch} {e : Env} {s : State} {m : MethodId} {args : Array Value} {below : List Frame} {meth : Method} {c : Code} {G : gG} (X : gX p s m args meth c yX6_tears cX6_tears 3 (some .int) RX6 G) {o : Nat} (ho : gsh G o = some 6)  {r : Int32} {σ' : Mem} : (∀ (n : Nat) (σ : Mem) (x1 : Int32) (x2 : Int32), fX6_tears_14 o n σ x1 x2 = some (r, σ') → ∀ (H : Heap) (locs : List Loc) (ls : Array Slot), gH G σ H → va_S (gAA G) s.heap H locs → lv_has ls 3 [(0, .ref (gad G o 0)), (1, .int x1), (2, .int x2)] → WB p l e 1 21 s m args below meth c G (some (.int r)) σ' H locs (F0 m 14 ls [])) := by
  intro n
  induction n with
  | zero => intro σ x1 x2 hf H locs ls hH hS hl; exact nomatch (show (none : Option (Int32 × Mem)) = some _ from hf)
  | succ n ih =>
    intro σ x1 x2 hf H locs ls hH hS hl
    rw [fX6_tears_14.eq_2] at hf
    refine lv_iload_n X.hx X.hb dX6_tears_14 rfl (lv_at hl 2 rfl) ?_
    refine lv_iconst (v := 5) X.hx X.hb dX6_tears_15 (by decide) ?_
    refine lv_icmp_ge (tgt := 35) X.hx X.hb dX6_tears_16 (by decide) (fun c5 => ?_) (fun c5 => ?_)
    · have hf := it_p hf c5
      refine lv_aload_n X.hx X.hb dX6_tears_35 rfl (lv_at hl 0 rfl) ?_
      refine gfX6_26 X hH ho dX6_tears_36 ?_
      refine lv_bipush (v := 20) X.hx X.hb dX6_tears_39 (by decide) ?_
      refine lv_iconst (v := 0) X.hx X.hb dX6_tears_41 (by decide) ?_
      obtain ⟨hg, hf⟩ := gd_e hf
      refine g_iast X hH hS ⟨_, ho, rfl⟩ hg dX6_tears_42 (fun H locs hH hS => ?_)
      obtain ⟨σ6, he, hf⟩ := stp_e hf
      rw [← he] at hH
      clear he
      refine lv_iload_n X.hx X.hb dX6_tears_43 rfl (lv_at hl 1 rfl) ?_
      have e := so2 hf
      rw [e.2] at hH
      exact g_iret X hH hS rfl e.1 dX6_tears_44
    · have hf := it_n hf c5
      refine lv_aload_n X.hx X.hb dX6_tears_19 rfl (lv_at hl 0 rfl) ?_
      refine gfX6_26 X hH ho dX6_tears_20 ?_
      refine lv_bipush (v := 21) X.hx X.hb dX6_tears_23 (by decide) ?_
      refine lv_iload_n X.hx X.hb dX6_tears_25 rfl (lv_at hl 2 rfl) ?_
      refine lv_iadd X.hx X.hb dX6_tears_26 ?_
      refine lv_iconst (v := 0) X.hx X.hb dX6_tears_27 (by decide) ?_
      obtain ⟨hg, hf⟩ := gd_e hf
      refine g_iast X hH hS ⟨_, ho, rfl⟩ hg dX6_tears_28 (fun H locs hH hS => ?_)
      obtain ⟨σ7, he, hf⟩ := stp_e hf
      rw [← he] at hH
      clear he
      refine lv_iinc (v := x2 + 1) (lv' := [(2, .int (x2 + 1)), (0, .ref (gad G o 0)), (1, .int x1)]) X.hx X.hb dX6_tears_29 hl (k := 2) rfl rfl (by decide) rfl (fun ls hl => ?_)
      refine lv_goto (tgt := 14) X.hx X.hb dX6_tears_32 (by decide) ?_
      exact ih _ _ _  hf _ _ _ hH hS (lv_sub hl [1, 2, 0] rfl)
set_option maxRecDepth 20000 in
set_option maxHeartbeats 4000000 in
theorem kX6_tears (l : Launch) {G : gG} {σ : Mem} {r : Int32} {σ' : Mem} {o : Nat} (ho : gsh G o = some 6)  (hf : fX6_tears σ o = some (r, σ')) : CM l yX6_tears cX6_tears 3 (some .int) 1 21 G σ [.ref (gad G o 0)] (some (.int r)) σ' := by
  refine CM.of (by decide) (Nat.le_of_ble_eq_true rfl) (fun p e s m below meth c ls X hH hl => ?_)
  have X : gX p s m _ meth c yX6_tears cX6_tears 3 (some .int) RX6 G := X
  have hS : va_S (gAA G) s.heap s.heap [] := va_S.rf
  have hl : lv_has ls 3 [(0, .ref (gad G o 0))] := hl
  rw [fX6_tears.eq_1] at hf
  refine lv_aload_n X.hx X.hb dX6_tears_0 rfl (lv_at hl 0 rfl) ?_
  obtain ⟨σ8, hr, hf⟩ := bd_e hf
  refine g_callVV (As := []) (rest := []) X (kX6_remembers l ho hr) (C := RX6) (T := TX6) (N := 39) (ci := 6) rfl ho ⟨cdX6_remembers, mlX6_181, imX6_remembers, seX6_remembers, iniX6⟩ hvX6_remembers ⟨Nat.le_of_ble_eq_true rfl, Nat.le_of_ble_eq_true rfl⟩ hH hS hl rfl rfl (Nat.le_of_ble_eq_true rfl) ⟨Nat.le_refl 0, Nat.le_refl 0⟩ dX6_tears_1 (fun H locs hH hS => ?_)
  refine lv_aload_n X.hx X.hb dX6_tears_4 rfl (lv_at hl 0 rfl) ?_
  refine gfX6_26 X hH ho dX6_tears_5 ?_
  refine lv_bipush (v := 20) X.hx X.hb dX6_tears_8 (by decide) ?_
  obtain ⟨hg, hf⟩ := gd_e hf
  refine g_iald X hH ⟨_, ho, rfl⟩ hg dX6_tears_10 ?_
  refine lv_istore_n (lv' := [(1, .int (mA σ8 o 7 (20 : Int32).toNatClampNeg)), (0, .ref (gad G o 0))]) X.hx X.hb dX6_tears_11 rfl hl (by decide) rfl (fun ls hl => ?_)
  refine lv_iconst (v := 0) X.hx X.hb dX6_tears_12 (by decide) ?_
  refine lv_istore_n (lv' := [(2, .int (0 : Int32)), (1, .int (mA σ8 o 7 (20 : Int32).toNatClampNeg)), (0, .ref (gad G o 0))]) X.hx X.hb dX6_tears_13 rfl hl (by decide) rfl (fun ls hl => ?_)
  exact bX6_tears_14 X  ho  _ _ _ _  hf _ _ _ hH hS (lv_sub hl [2, 1, 0] rfl)
set_option maxRecDepth 20000 in
set_option maxHeartbeats 4000000 in
theorem kX6_madeOf (l : Launch) {G : gG} {σ : Mem} {r : Int32} {o : Nat} {x1 : Int32} {x2 : Int32} (ho : gsh G o = some 6)  (hf : fX6_madeOf σ o x1 x2 = some r) : CM l yX6_madeOf cX6_madeOf 3 (some .int) 1 21 G σ [.ref (gad G o 0), .int x1, .int x2] (some (.int r)) σ := by
  refine CM.of (by decide) (Nat.le_of_ble_eq_true rfl) (fun p e s m below meth c ls X hH hl => ?_)
  have X : gX p s m _ meth c yX6_madeOf cX6_madeOf 3 (some .int) RX6 G := X
  have hS : va_S (gAA G) s.heap s.heap [] := va_S.rf
  have hl : lv_has ls 3 [(0, .ref (gad G o 0)), (1, .int x1), (2, .int x2)] := hl
  rw [fX6_madeOf.eq_1] at hf
  refine lv_iload_n X.hx X.hb dX6_madeOf_0 rfl (lv_at hl 2 rfl) ?_
  refine lv_bipush (v := 10) X.hx X.hb dX6_madeOf_1 (by decide) ?_
  refine lv_icmp_eq (tgt := 21) X.hx X.hb dX6_madeOf_3 (by decide) (fun c5 => ?_) (fun c5 => ?_)
  · have hf := it_p hf c5
    refine lv_bipush (v := 10) X.hx X.hb dX6_madeOf_21 (by decide) ?_
    exact g_iret X hH hS rfl (so1 hf) dX6_madeOf_23
  · have hf := it_n hf c5
    refine lv_aload_n X.hx X.hb dX6_madeOf_6 rfl (lv_at hl 0 rfl) ?_
    refine gfX6_23 X hH ho dX6_madeOf_7 ?_
    refine lv_iconst (v := 3) X.hx X.hb dX6_madeOf_10 (by decide) ?_
    refine lv_iload_n X.hx X.hb dX6_madeOf_11 rfl (lv_at hl 1 rfl) ?_
    refine lv_imul X.hx X.hb dX6_madeOf_12 ?_
    obtain ⟨hg, hf⟩ := gd_e hf
    refine g_iald X hH ⟨_, ho, rfl⟩ hg dX6_madeOf_13 ?_
    refine lv_iload_n X.hx X.hb dX6_madeOf_14 rfl (lv_at hl 2 rfl) ?_
    obtain ⟨r6, hr, hf⟩ := bd_e hf
    refine g_callSI (As := [.int (mA σ o 6 ((3 : Int32) * x1).toNatClampNeg), .int x2]) (rest := []) X (kX6_has l  hr) ⟨cdX6_has, mlX6_125, stX6_has, iniX6⟩ hsX6_has ⟨Nat.le_of_ble_eq_true rfl, Nat.le_of_ble_eq_true rfl⟩ hH hS hl rfl rfl (Nat.le_of_ble_eq_true rfl) ⟨Nat.le_refl 0, Nat.le_refl 0⟩ dX6_madeOf_15 (fun H locs hH hS => ?_)
    refine lv_if_eq (tgt := 24) X.hx X.hb dX6_madeOf_18 (by decide) (fun c7 => ?_) (fun c7 => ?_)
    · have hf := it_p hf c7
      refine lv_iload_n X.hx X.hb dX6_madeOf_24 rfl (lv_at hl 2 rfl) ?_
      refine lv_aload_n X.hx X.hb dX6_madeOf_25 rfl (lv_at hl 0 rfl) ?_
      refine gfX6_23 X hH ho dX6_madeOf_26 ?_
      refine lv_iconst (v := 3) X.hx X.hb dX6_madeOf_29 (by decide) ?_
      refine lv_iload_n X.hx X.hb dX6_madeOf_30 rfl (lv_at hl 1 rfl) ?_
      refine lv_imul X.hx X.hb dX6_madeOf_31 ?_
      refine lv_iconst (v := 1) X.hx X.hb dX6_madeOf_32 (by decide) ?_
      refine lv_iadd X.hx X.hb dX6_madeOf_33 ?_
      obtain ⟨hg, hf⟩ := gd_e hf
      refine g_iald X hH ⟨_, ho, rfl⟩ hg dX6_madeOf_34 ?_
      refine lv_icmp_ne (tgt := 51) X.hx X.hb dX6_madeOf_35 (by decide) (fun c8 => ?_) (fun c8 => ?_)
      · have hf := it_n hf c8
        refine lv_iload_n X.hx X.hb dX6_madeOf_51 rfl (lv_at hl 2 rfl) ?_
        exact g_iret X hH hS rfl (so1 hf) dX6_madeOf_52
      · have hf := it_p hf c8
        refine lv_aload_n X.hx X.hb dX6_madeOf_38 rfl (lv_at hl 0 rfl) ?_
        refine gfX6_23 X hH ho dX6_madeOf_39 ?_
        refine lv_iconst (v := 3) X.hx X.hb dX6_madeOf_42 (by decide) ?_
        refine lv_iload_n X.hx X.hb dX6_madeOf_43 rfl (lv_at hl 1 rfl) ?_
        refine lv_imul X.hx X.hb dX6_madeOf_44 ?_
        refine lv_iconst (v := 2) X.hx X.hb dX6_madeOf_45 (by decide) ?_
        refine lv_iadd X.hx X.hb dX6_madeOf_46 ?_
        obtain ⟨hg, hf⟩ := gd_e hf
        refine g_iald X hH ⟨_, ho, rfl⟩ hg dX6_madeOf_47 ?_
        refine lv_goto (tgt := 52) X.hx X.hb dX6_madeOf_48 (by decide) ?_
        exact g_iret X hH hS rfl (so1 hf) dX6_madeOf_52
    · have hf := it_n hf c7
      refine lv_bipush (v := 10) X.hx X.hb dX6_madeOf_21 (by decide) ?_
      exact g_iret X hH hS rfl (so1 hf) dX6_madeOf_23
set_option maxRecDepth 20000 in
set_option maxHeartbeats 4000000 in
theorem bX6_smokes_18 {p : Program} {l : Launch} {e : Env} {s : State} {m : MethodId} {args : Array Value} {below : List Frame} {meth : Method} {c : Code} {G : gG} (X : gX p s m args meth c yX6_smokes cX6_smokes 4 (some .int) RX6 G) {o : Nat} (ho : gsh G o = some 6)  {r : Int32} {σ' : Mem} : (∀ (n : Nat) (σ : Mem) (x1 : Int32) (x2 : Int32) (x3 : Int32), fX6_smokes_18 o n σ x1 x2 x3 = some (r, σ') → ∀ (H : Heap) (locs : List Loc) (ls : Array Slot), gH G σ H → va_S (gAA G) s.heap H locs → lv_has ls 4 [(0, .ref (gad G o 0)), (1, .int x1), (2, .int x2), (3, .int x3)] → WB p l e 2 43 s m args below meth c G (some (.int r)) σ' H locs (F0 m 18 ls [])) := by
  intro n
  induction n with
  | zero => intro σ x1 x2 x3 hf H locs ls hH hS hl; exact nomatch (show (none : Option (Int32 × Mem)) = some _ from hf)
  | succ n ih =>
    intro σ x1 x2 x3 hf H locs ls hH hS hl
    rw [fX6_smokes_18.eq_2] at hf
    refine lv_iload_n X.hx X.hb dX6_smokes_18 rfl (lv_at hl 3 rfl) ?_
    refine lv_aload_n X.hx X.hb dX6_smokes_19 rfl (lv_at hl 0 rfl) ?_
    refine gfX6_26 X hH ho dX6_smokes_20 ?_
    refine lv_bipush (v := 20) X.hx X.hb dX6_smokes_23 (by decide) ?_
    obtain ⟨hg, hf⟩ := gd_e hf
    refine g_iald X hH ⟨_, ho, rfl⟩ hg dX6_smokes_25 ?_
    refine lv_icmp_ge (tgt := 80) X.hx X.hb dX6_smokes_26 (by decide) (fun c8 => ?_) (fun c8 => ?_)
    · have hf := it_p hf c8
      refine lv_iload_n X.hx X.hb dX6_smokes_80 rfl (lv_at hl 2 rfl) ?_
      have e := so2 hf
      rw [e.2] at hH
      exact g_iret X hH hS rfl e.1 dX6_smokes_81
    · have hf := it_n hf c8
      refine lv_aload_n X.hx X.hb dX6_smokes_29 rfl (lv_at hl 0 rfl) ?_
      refine gfX6_26 X hH ho dX6_smokes_30 ?_
      refine lv_bipush (v := 21) X.hx X.hb dX6_smokes_33 (by decide) ?_
      refine lv_iload_n X.hx X.hb dX6_smokes_35 rfl (lv_at hl 3 rfl) ?_
      refine lv_iadd X.hx X.hb dX6_smokes_36 ?_
      refine lv_aload_n X.hx X.hb dX6_smokes_37 rfl (lv_at hl 0 rfl) ?_
      refine lv_iload_n X.hx X.hb dX6_smokes_38 rfl (lv_at hl 1 rfl) ?_
      refine lv_aload_n X.hx X.hb dX6_smokes_39 rfl (lv_at hl 0 rfl) ?_
      refine gfX6_26 X hH ho dX6_smokes_40 ?_
      refine lv_bipush (v := 21) X.hx X.hb dX6_smokes_43 (by decide) ?_
      refine lv_iload_n X.hx X.hb dX6_smokes_45 rfl (lv_at hl 3 rfl) ?_
      refine lv_iadd X.hx X.hb dX6_smokes_46 ?_
      obtain ⟨hg, hf⟩ := gd_e hf
      refine g_iald X hH ⟨_, ho, rfl⟩ hg dX6_smokes_47 ?_
      obtain ⟨r9, hr, hf⟩ := bd_e hf
      refine g_callVI (As := [.int x1, .int (mA σ o 7 ((21 : Int32) + x3).toNatClampNeg)]) (rest := [.int ((21 : Int32) + x3), .ref (gad G o (7 + 1))]) X (kX6_madeOf l ho hr) (C := RX6) (T := TX6) (N := 39) (ci := 6) rfl ho ⟨cdX6_madeOf, mlX6_225, imX6_madeOf, seX6_madeOf, iniX6⟩ hvX6_madeOf ⟨Nat.le_of_ble_eq_true rfl, Nat.le_of_ble_eq_true rfl⟩ hH hS hl rfl rfl (Nat.le_of_ble_eq_true rfl) ⟨Nat.le_refl 0, Nat.le_refl 0⟩ dX6_smokes_48 (fun H locs hH hS => ?_)
      obtain ⟨hg, hf⟩ := gd_e hf
      refine g_iast X hH hS ⟨_, ho, rfl⟩ hg dX6_smokes_51 (fun H locs hH hS => ?_)
      obtain ⟨σ10, he, hf⟩ := stp_e hf
      rw [← he] at hH
      clear he
      refine lv_iload_n X.hx X.hb dX6_smokes_52 rfl (lv_at hl 2 rfl) ?_
      refine lv_aload_n X.hx X.hb dX6_smokes_53 rfl (lv_at hl 0 rfl) ?_
      refine gfX6_26 X hH ho dX6_smokes_54 ?_
      refine lv_bipush (v := 21) X.hx X.hb dX6_smokes_57 (by decide) ?_
      refine lv_iload_n X.hx X.hb dX6_smokes_59 rfl (lv_at hl 3 rfl) ?_
      refine lv_iadd X.hx X.hb dX6_smokes_60 ?_
      obtain ⟨hg, hf⟩ := gd_e hf
      refine g_iald X hH ⟨_, ho, rfl⟩ hg dX6_smokes_61 ?_
      refine lv_bipush (v := 10) X.hx X.hb dX6_smokes_62 (by decide) ?_
      refine lv_icmp_ne (tgt := 71) X.hx X.hb dX6_smokes_64 (by decide) (fun c11 => ?_) (fun c11 => ?_)
      · have hf := it_n hf c11
        refine lv_iconst (v := 0) X.hx X.hb dX6_smokes_71 (by decide) ?_
        refine lv_iadd X.hx X.hb dX6_smokes_72 ?_
        refine lv_istore_n (lv' := [(2, .int (x2 + (0 : Int32))), (0, .ref (gad G o 0)), (1, .int x1), (3, .int x3)]) X.hx X.hb dX6_smokes_73 rfl hl (by decide) rfl (fun ls hl => ?_)
        refine lv_iinc (v := x3 + 1) (lv' := [(3, .int (x3 + 1)), (2, .int (x2 + (0 : Int32))), (0, .ref (gad G o 0)), (1, .int x1)]) X.hx X.hb dX6_smokes_74 hl (k := 3) rfl rfl (by decide) rfl (fun ls hl => ?_)
        refine lv_goto (tgt := 18) X.hx X.hb dX6_smokes_77 (by decide) ?_
        exact ih _ _ _ _  hf _ _ _ hH hS (lv_sub hl [2, 3, 1, 0] rfl)
      · have hf := it_p hf c11
        refine lv_iconst (v := 1) X.hx X.hb dX6_smokes_67 (by decide) ?_
        refine lv_goto (tgt := 72) X.hx X.hb dX6_smokes_68 (by decide) ?_
        refine lv_iadd X.hx X.hb dX6_smokes_72 ?_
        refine lv_istore_n (lv' := [(2, .int (x2 + (1 : Int32))), (0, .ref (gad G o 0)), (1, .int x1), (3, .int x3)]) X.hx X.hb dX6_smokes_73 rfl hl (by decide) rfl (fun ls hl => ?_)
        refine lv_iinc (v := x3 + 1) (lv' := [(3, .int (x3 + 1)), (2, .int (x2 + (1 : Int32))), (0, .ref (gad G o 0)), (1, .int x1)]) X.hx X.hb dX6_smokes_74 hl (k := 3) rfl rfl (by decide) rfl (fun ls hl => ?_)
        refine lv_goto (tgt := 18) X.hx X.hb dX6_smokes_77 (by decide) ?_
        exact ih _ _ _ _  hf _ _ _ hH hS (lv_sub hl [2, 3, 1, 0] rfl)
set_option maxRecDepth 20000 in
set_option maxHeartbeats 4000000 in
theorem kX6_smokes (l : Launch) {G : gG} {σ : Mem} {r : Int32} {σ' : Mem} {o : Nat} {x1 : Int32} (ho : gsh G o = some 6)  (hf : fX6_smokes σ o x1 = some (r, σ')) : CM l yX6_smokes cX6_smokes 4 (some .int) 2 43 G σ [.ref (gad G o 0), .int x1] (some (.int r)) σ' := by
  refine CM.of (by decide) (Nat.le_of_ble_eq_true rfl) (fun p e s m below meth c ls X hH hl => ?_)
  have X : gX p s m _ meth c yX6_smokes cX6_smokes 4 (some .int) RX6 G := X
  have hS : va_S (gAA G) s.heap s.heap [] := va_S.rf
  have hl : lv_has ls 4 [(0, .ref (gad G o 0)), (1, .int x1)] := hl
  rw [fX6_smokes.eq_1] at hf
  refine lv_aload_n X.hx X.hb dX6_smokes_0 rfl (lv_at hl 0 rfl) ?_
  refine lv_iload_n X.hx X.hb dX6_smokes_1 rfl (lv_at hl 1 rfl) ?_
  obtain ⟨r12, hr, hf⟩ := bd_e hf
  refine g_callVI (As := [.int x1]) (rest := []) X (kX6_isClerk l ho hr) (C := RX6) (T := TX6) (N := 39) (ci := 6) rfl ho ⟨cdX6_isClerk, mlX6_162, imX6_isClerk, seX6_isClerk, iniX6⟩ hvX6_isClerk ⟨Nat.le_of_ble_eq_true rfl, Nat.le_of_ble_eq_true rfl⟩ hH hS hl rfl rfl (Nat.le_of_ble_eq_true rfl) ⟨Nat.le_refl 0, Nat.le_refl 0⟩ dX6_smokes_2 (fun H locs hH hS => ?_)
  refine lv_if_ne (tgt := 10) X.hx X.hb dX6_smokes_5 (by decide) (fun c13 => ?_) (fun c13 => ?_)
  · have hf := it_n hf c13
    refine lv_aload_n X.hx X.hb dX6_smokes_10 rfl (lv_at hl 0 rfl) ?_
    obtain ⟨σ14, hr, hf⟩ := bd_e hf
    refine g_callVV (As := []) (rest := []) X (kX6_remembers l ho hr) (C := RX6) (T := TX6) (N := 39) (ci := 6) rfl ho ⟨cdX6_remembers, mlX6_181, imX6_remembers, seX6_remembers, iniX6⟩ hvX6_remembers ⟨Nat.le_of_ble_eq_true rfl, Nat.le_of_ble_eq_true rfl⟩ hH hS hl rfl rfl (Nat.le_of_ble_eq_true rfl) ⟨Nat.le_refl 0, Nat.le_refl 0⟩ dX6_smokes_11 (fun H locs hH hS => ?_)
    refine lv_iconst (v := 0) X.hx X.hb dX6_smokes_14 (by decide) ?_
    refine lv_istore_n (lv' := [(2, .int (0 : Int32)), (0, .ref (gad G o 0)), (1, .int x1)]) X.hx X.hb dX6_smokes_15 rfl hl (by decide) rfl (fun ls hl => ?_)
    refine lv_iconst (v := 0) X.hx X.hb dX6_smokes_16 (by decide) ?_
    refine lv_istore_n (lv' := [(3, .int (0 : Int32)), (2, .int (0 : Int32)), (0, .ref (gad G o 0)), (1, .int x1)]) X.hx X.hb dX6_smokes_17 rfl hl (by decide) rfl (fun ls hl => ?_)
    exact bX6_smokes_18 X  ho  _ _ _ _ _  hf _ _ _ hH hS (lv_sub hl [2, 3, 1, 0] rfl)
  · have hf := it_p hf c13
    refine lv_iconst (v := -1) X.hx X.hb dX6_smokes_8 (by decide) ?_
    have e := so2 hf
    rw [e.2] at hH
    exact g_iret X hH hS rfl e.1 dX6_smokes_9
set_option maxRecDepth 20000 in
set_option maxHeartbeats 4000000 in
theorem kX6_word (l : Launch) {G : gG} {σ : Mem} {r : Int32} {o : Nat} {x1 : Int32} (ho : gsh G o = some 6)  (hf : fX6_word σ o x1 = some r) : CM l yX6_word cX6_word 2 (some .int) 1 22 G σ [.ref (gad G o 0), .int x1] (some (.int r)) σ := by
  refine CM.of (by decide) (Nat.le_of_ble_eq_true rfl) (fun p e s m below meth c ls X hH hl => ?_)
  have X : gX p s m _ meth c yX6_word cX6_word 2 (some .int) RX6 G := X
  have hS : va_S (gAA G) s.heap s.heap [] := va_S.rf
  have hl : lv_has ls 2 [(0, .ref (gad G o 0)), (1, .int x1)] := hl
  rw [fX6_word.eq_1] at hf
  refine lv_iload_n X.hx X.hb dX6_word_0 rfl (lv_at hl 1 rfl) ?_
  refine lv_iconst (v := 0) X.hx X.hb dX6_word_1 (by decide) ?_
  refine lv_aload_n X.hx X.hb dX6_word_2 rfl (lv_at hl 0 rfl) ?_
  refine gfX6_26 X hH ho dX6_word_3 ?_
  refine lv_bipush (v := 20) X.hx X.hb dX6_word_6 (by decide) ?_
  obtain ⟨hg, hf⟩ := gd_e hf
  refine g_iald X hH ⟨_, ho, rfl⟩ hg dX6_word_8 ?_
  refine lv_iconst (v := 1) X.hx X.hb dX6_word_9 (by decide) ?_
  refine lv_isub X.hx X.hb dX6_word_10 ?_
  obtain ⟨r3, hr, hf⟩ := bd_e hf
  refine g_callSI (As := [.int x1, .int (0 : Int32), .int ((mA σ o 7 (20 : Int32).toNatClampNeg) - (1 : Int32))]) (rest := []) X (kX6_in l  hr) ⟨cdX6_in, mlX6_85, stX6_in, iniX6⟩ hsX6_in ⟨Nat.le_of_ble_eq_true rfl, Nat.le_of_ble_eq_true rfl⟩ hH hS hl rfl rfl (Nat.le_of_ble_eq_true rfl) ⟨Nat.le_refl 0, Nat.le_refl 0⟩ dX6_word_11 (fun H locs hH hS => ?_)
  refine lv_if_eq (tgt := 29) X.hx X.hb dX6_word_14 (by decide) (fun c4 => ?_) (fun c4 => ?_)
  · have hf := it_p hf c4
    refine lv_iconst (v := -1) X.hx X.hb dX6_word_29 (by decide) ?_
    exact g_iret X hH hS rfl (so1 hf) dX6_word_30
  · have hf := it_n hf c4
    refine lv_aload_n X.hx X.hb dX6_word_17 rfl (lv_at hl 0 rfl) ?_
    refine gfX6_26 X hH ho dX6_word_18 ?_
    refine lv_bipush (v := 21) X.hx X.hb dX6_word_21 (by decide) ?_
    refine lv_iload_n X.hx X.hb dX6_word_23 rfl (lv_at hl 1 rfl) ?_
    refine lv_iadd X.hx X.hb dX6_word_24 ?_
    obtain ⟨hg, hf⟩ := gd_e hf
    refine g_iald X hH ⟨_, ho, rfl⟩ hg dX6_word_25 ?_
    refine lv_goto (tgt := 30) X.hx X.hb dX6_word_26 (by decide) ?_
    exact g_iret X hH hS rfl (so1 hf) dX6_word_30
set_option maxRecDepth 20000 in
set_option maxHeartbeats 4000000 in
theorem bX6_brown_78 {p : Program} {l : Launch} {e : Env} {s : State} {m : MethodId} {args : Array Value} {below : List Frame} {meth : Method} {c : Code} {G : gG} (X : gX p s m args meth c yX6_brown cX6_brown 3 (some .int) RX6 G) {o : Nat} (ho : gsh G o = some 6)  {r : Int32} {σ' : Mem} : (∀ (n : Nat) (σ : Mem) (x2 : Int32), fX6_brown_78 o n σ x2 = some (r, σ') → ∀ (H : Heap) (locs : List Loc) (ls : Array Slot), gH G σ H → va_S (gAA G) s.heap H locs → lv_has ls 3 [(0, .ref (gad G o 0)), (2, .int x2)] → WB p l e 2 43 s m args below meth c G (some (.int r)) σ' H locs (F0 m 78 ls [])) := by
  intro n
  induction n with
  | zero => intro σ x2 hf H locs ls hH hS hl; exact nomatch (show (none : Option (Int32 × Mem)) = some _ from hf)
  | succ n ih =>
    intro σ x2 hf H locs ls hH hS hl
    rw [fX6_brown_78.eq_2] at hf
    refine lv_iload_n X.hx X.hb dX6_brown_78 rfl (lv_at hl 1 rfl) ?_
    refine lv_aload_n X.hx X.hb dX6_brown_79 rfl (lv_at hl 0 rfl) ?_
    refine gfX6_228 X hH ho dX6_brown_80 ?_
    refine lv_icmp_ge (tgt := 114) X.hx X.hb dX6_brown_83 (by decide) (fun c12 => ?_) (fun c12 => ?_)
    · have hf := it_p hf c12
      refine lv_aload_n X.hx X.hb dX6_brown_114 rfl (lv_at hl 0 rfl) ?_
      refine lv_dup X.hx X.hb dX6_brown_115 rfl ?_
      refine gfX6_155 X hH ho dX6_brown_116 ?_
      refine lv_iconst (v := 1) X.hx X.hb dX6_brown_119 (by decide) ?_
      refine lv_iadd X.hx X.hb dX6_brown_120 ?_
      refine pfX6_155 X hH hS ho  dX6_brown_121 (fun H locs hH hS => ?_)
      obtain ⟨σ13, he, hf⟩ := stp_e hf
      rw [← he] at hH
      clear he
      refine lv_aload_n X.hx X.hb dX6_brown_124 rfl (lv_at hl 0 rfl) ?_
      refine gfX6_155 X hH ho dX6_brown_125 ?_
      have e := so2 hf
      rw [e.2] at hH
      exact g_iret X hH hS rfl e.1 dX6_brown_128
    · have hf := it_n hf c12
      refine lv_aload_n X.hx X.hb dX6_brown_86 rfl (lv_at hl 0 rfl) ?_
      refine gfX6_42 X hH ho dX6_brown_87 ?_
      refine lv_iconst (v := 5) X.hx X.hb dX6_brown_90 (by decide) ?_
      refine lv_aload_n X.hx X.hb dX6_brown_91 rfl (lv_at hl 0 rfl) ?_
      refine gfX6_155 X hH ho dX6_brown_92 ?_
      refine lv_imul X.hx X.hb dX6_brown_95 ?_
      refine lv_iload_n X.hx X.hb dX6_brown_96 rfl (lv_at hl 1 rfl) ?_
      refine lv_iadd X.hx X.hb dX6_brown_97 ?_
      refine lv_aload_n X.hx X.hb dX6_brown_98 rfl (lv_at hl 0 rfl) ?_
      refine gfX6_26 X hH ho dX6_brown_99 ?_
      refine lv_bipush (v := 21) X.hx X.hb dX6_brown_102 (by decide) ?_
      refine lv_iload_n X.hx X.hb dX6_brown_104 rfl (lv_at hl 1 rfl) ?_
      refine lv_iadd X.hx X.hb dX6_brown_105 ?_
      obtain ⟨hg, hf⟩ := gd_e hf
      refine g_iald X hH ⟨_, ho, rfl⟩ hg dX6_brown_106 ?_
      obtain ⟨hg, hf⟩ := gd_e hf
      refine g_iast X hH hS ⟨_, ho, rfl⟩ hg dX6_brown_107 (fun H locs hH hS => ?_)
      obtain ⟨σ14, he, hf⟩ := stp_e hf
      rw [← he] at hH
      clear he
      refine lv_iinc (v := x2 + 1) (lv' := [(2, .int (x2 + 1)), (0, .ref (gad G o 0))]) X.hx X.hb dX6_brown_108 hl (k := 1) rfl rfl (by decide) rfl (fun ls hl => ?_)
      refine lv_goto (tgt := 78) X.hx X.hb dX6_brown_111 (by decide) ?_
      exact ih _ _  hf _ _ _ hH hS (lv_sub hl [1, 0] rfl)
set_option maxRecDepth 20000 in
set_option maxHeartbeats 4000000 in
theorem bX6_brown_44 {p : Program} {l : Launch} {e : Env} {s : State} {m : MethodId} {args : Array Value} {below : List Frame} {meth : Method} {c : Code} {G : gG} (X : gX p s m args meth c yX6_brown cX6_brown 3 (some .int) RX6 G) {o : Nat} (ho : gsh G o = some 6)  {r : Int32} {σ' : Mem} : (∀ (σ : Mem) (x1 : Int32), fX6_brown_44 o σ x1 = some (r, σ') → ∀ (H : Heap) (locs : List Loc) (ls : Array Slot), gH G σ H → va_S (gAA G) s.heap H locs → lv_has ls 3 [(0, .ref (gad G o 0)), (1, .int x1)] → WB p l e 2 43 s m args below meth c G (some (.int r)) σ' H locs (F0 m 44 ls [])) := by
  intro σ x1 hf H locs ls hH hS hl
  rw [fX6_brown_44.eq_1] at hf
  refine lv_aload_n X.hx X.hb dX6_brown_44 rfl (lv_at hl 0 rfl) ?_
  refine gfX6_155 X hH ho dX6_brown_45 ?_
  refine lv_iconst (v := 4) X.hx X.hb dX6_brown_48 (by decide) ?_
  refine lv_icmp_ne (tgt := 55) X.hx X.hb dX6_brown_49 (by decide) (fun c15 => ?_) (fun c15 => ?_)
  · have hf := it_n hf c15
    refine lv_aload_n X.hx X.hb dX6_brown_55 rfl (lv_at hl 0 rfl) ?_
    refine lv_aload_n X.hx X.hb dX6_brown_56 rfl (lv_at hl 0 rfl) ?_
    refine gfX6_26 X hH ho dX6_brown_57 ?_
    refine lv_bipush (v := 20) X.hx X.hb dX6_brown_60 (by decide) ?_
    obtain ⟨hg, hf⟩ := gd_e hf
    refine g_iald X hH ⟨_, ho, rfl⟩ hg dX6_brown_62 ?_
    refine pfX6_228 X hH hS ho  dX6_brown_63 (fun H locs hH hS => ?_)
    obtain ⟨σ16, he, hf⟩ := stp_e hf
    rw [← he] at hH
    clear he
    refine lv_aload_n X.hx X.hb dX6_brown_66 rfl (lv_at hl 0 rfl) ?_
    refine gfX6_39 X hH ho dX6_brown_67 ?_
    refine lv_aload_n X.hx X.hb dX6_brown_70 rfl (lv_at hl 0 rfl) ?_
    refine gfX6_155 X hH ho dX6_brown_71 ?_
    refine lv_iload_n X.hx X.hb dX6_brown_74 rfl (lv_at hl 1 rfl) ?_
    obtain ⟨hg, hf⟩ := gd_e hf
    refine g_iast X hH hS ⟨_, ho, rfl⟩ hg dX6_brown_75 (fun H locs hH hS => ?_)
    obtain ⟨σ17, he, hf⟩ := stp_e hf
    rw [← he] at hH
    clear he
    refine lv_iconst (v := 0) X.hx X.hb dX6_brown_76 (by decide) ?_
    refine lv_istore_n (lv' := [(2, .int (0 : Int32)), (0, .ref (gad G o 0)), (1, .int x1)]) X.hx X.hb dX6_brown_77 rfl hl (by decide) rfl (fun ls hl => ?_)
    exact bX6_brown_78 X  ho  _ _ _  hf _ _ _ hH hS (lv_sub hl [1, 0] rfl)
  · have hf := it_p hf c15
    refine lv_bipush (v := -3) X.hx X.hb dX6_brown_52 (by decide) ?_
    have e := so2 hf
    rw [e.2] at hH
    exact g_iret X hH hS rfl e.1 dX6_brown_54
set_option maxRecDepth 20000 in
set_option maxHeartbeats 4000000 in
theorem kX6_brown (l : Launch) {G : gG} {σ : Mem} {r : Int32} {σ' : Mem} {o : Nat} {x1 : Int32} (ho : gsh G o = some 6)  (hf : fX6_brown σ o x1 = some (r, σ')) : CM l yX6_brown cX6_brown 3 (some .int) 2 43 G σ [.ref (gad G o 0), .int x1] (some (.int r)) σ' := by
  refine CM.of (by decide) (Nat.le_of_ble_eq_true rfl) (fun p e s m below meth c ls X hH hl => ?_)
  have X : gX p s m _ meth c yX6_brown cX6_brown 3 (some .int) RX6 G := X
  have hS : va_S (gAA G) s.heap s.heap [] := va_S.rf
  have hl : lv_has ls 3 [(0, .ref (gad G o 0)), (1, .int x1)] := hl
  rw [fX6_brown.eq_1] at hf
  refine lv_aload_n X.hx X.hb dX6_brown_0 rfl (lv_at hl 0 rfl) ?_
  refine lv_iload_n X.hx X.hb dX6_brown_1 rfl (lv_at hl 1 rfl) ?_
  obtain ⟨r18, hr, hf⟩ := bd_e hf
  refine g_callVI (As := [.int x1]) (rest := []) X (kX6_isClerk l ho hr) (C := RX6) (T := TX6) (N := 39) (ci := 6) rfl ho ⟨cdX6_isClerk, mlX6_162, imX6_isClerk, seX6_isClerk, iniX6⟩ hvX6_isClerk ⟨Nat.le_of_ble_eq_true rfl, Nat.le_of_ble_eq_true rfl⟩ hH hS hl rfl rfl (Nat.le_of_ble_eq_true rfl) ⟨Nat.le_refl 0, Nat.le_refl 0⟩ dX6_brown_2 (fun H locs hH hS => ?_)
  refine lv_if_ne (tgt := 10) X.hx X.hb dX6_brown_5 (by decide) (fun c19 => ?_) (fun c19 => ?_)
  · have hf := it_n hf c19
    refine lv_aload_n X.hx X.hb dX6_brown_10 rfl (lv_at hl 0 rfl) ?_
    refine gfX6_26 X hH ho dX6_brown_11 ?_
    refine lv_bipush (v := 20) X.hx X.hb dX6_brown_14 (by decide) ?_
    obtain ⟨hg, hf⟩ := gd_e hf
    refine g_iald X hH ⟨_, ho, rfl⟩ hg dX6_brown_16 ?_
    refine lv_if_eq (tgt := 41) X.hx X.hb dX6_brown_17 (by decide) (fun c20 => ?_) (fun c20 => ?_)
    · have hf := it_p hf c20
      refine lv_bipush (v := -2) X.hx X.hb dX6_brown_41 (by decide) ?_
      have e := so2 hf
      rw [e.2] at hH
      exact g_iret X hH hS rfl e.1 dX6_brown_43
    · have hf := it_n hf c20
      refine lv_aload_n X.hx X.hb dX6_brown_20 rfl (lv_at hl 0 rfl) ?_
      refine gfX6_155 X hH ho dX6_brown_21 ?_
      refine lv_if_le (tgt := 44) X.hx X.hb dX6_brown_24 (by decide) (fun c21 => ?_) (fun c21 => ?_)
      · have hf := it_p hf c21
        exact bX6_brown_44 X  ho   _ _  hf _ _ _ hH hS (lv_sub hl [0, 1] rfl)
      · have hf := it_n hf c21
        refine lv_aload_n X.hx X.hb dX6_brown_27 rfl (lv_at hl 0 rfl) ?_
        refine gfX6_228 X hH ho dX6_brown_28 ?_
        refine lv_aload_n X.hx X.hb dX6_brown_31 rfl (lv_at hl 0 rfl) ?_
        refine gfX6_26 X hH ho dX6_brown_32 ?_
        refine lv_bipush (v := 20) X.hx X.hb dX6_brown_35 (by decide) ?_
        obtain ⟨hg, hf⟩ := gd_e hf
        refine g_iald X hH ⟨_, ho, rfl⟩ hg dX6_brown_37 ?_
        refine lv_icmp_eq (tgt := 44) X.hx X.hb dX6_brown_38 (by decide) (fun c22 => ?_) (fun c22 => ?_)
        · have hf := it_p hf c22
          exact bX6_brown_44 X  ho   _ _  hf _ _ _ hH hS (lv_sub hl [0, 1] rfl)
        · have hf := it_n hf c22
          refine lv_bipush (v := -2) X.hx X.hb dX6_brown_41 (by decide) ?_
          have e := so2 hf
          rw [e.2] at hH
          exact g_iret X hH hS rfl e.1 dX6_brown_43
  · have hf := it_p hf c19
    refine lv_iconst (v := -1) X.hx X.hb dX6_brown_8 (by decide) ?_
    have e := so2 hf
    rw [e.2] at hH
    exact g_iret X hH hS rfl e.1 dX6_brown_9
set_option maxRecDepth 20000 in
set_option maxHeartbeats 4000000 in
theorem kX6_burn (l : Launch) {G : gG} {σ : Mem} {r : Int32} {σ' : Mem} {o : Nat} (ho : gsh G o = some 6)  (hf : fX6_burn σ o = some (r, σ')) : CM l yX6_burn cX6_burn 2 (some .int) 0 0 G σ [.ref (gad G o 0)] (some (.int r)) σ' := by
  refine CM.of (by decide) (Nat.le_of_ble_eq_true rfl) (fun p e s m below meth c ls X hH hl => ?_)
  have X : gX p s m _ meth c yX6_burn cX6_burn 2 (some .int) RX6 G := X
  have hS : va_S (gAA G) s.heap s.heap [] := va_S.rf
  have hl : lv_has ls 2 [(0, .ref (gad G o 0))] := hl
  rw [fX6_burn.eq_1] at hf
  refine lv_aload_n X.hx X.hb dX6_burn_0 rfl (lv_at hl 0 rfl) ?_
  refine gfX6_155 X hH ho dX6_burn_1 ?_
  refine lv_istore_n (lv' := [(1, .int (mI σ o 12)), (0, .ref (gad G o 0))]) X.hx X.hb dX6_burn_4 rfl hl (by decide) rfl (fun ls hl => ?_)
  refine lv_aload_n X.hx X.hb dX6_burn_5 rfl (lv_at hl 1 rfl) ?_
  refine lv_iconst (v := 0) X.hx X.hb dX6_burn_6 (by decide) ?_
  refine pfX6_155 X hH hS ho  dX6_burn_7 (fun H locs hH hS => ?_)
  obtain ⟨σ2, he, hf⟩ := stp_e hf
  rw [← he] at hH
  clear he
  refine lv_iload_n X.hx X.hb dX6_burn_10 rfl (lv_at hl 0 rfl) ?_
  have e := so2 hf
  rw [e.2] at hH
  exact g_iret X hH hS rfl e.1 dX6_burn_11
set_option maxRecDepth 20000 in
set_option maxHeartbeats 4000000 in
theorem kX6_isCopied (l : Launch) {G : gG} {σ : Mem} {r : Int32} {o : Nat} {x1 : Int32} (ho : gsh G o = some 6)  (hf : fX6_isCopied σ o x1 = some r) : CM l yX6_isCopied cX6_isCopied 2 (some .boolean) 1 22 G σ [.ref (gad G o 0), .int x1] (some (.int r)) σ := by
  refine CM.of (by decide) (Nat.le_of_ble_eq_true rfl) (fun p e s m below meth c ls X hH hl => ?_)
  have X : gX p s m _ meth c yX6_isCopied cX6_isCopied 2 (some .boolean) RX6 G := X
  have hS : va_S (gAA G) s.heap s.heap [] := va_S.rf
  have hl : lv_has ls 2 [(0, .ref (gad G o 0)), (1, .int x1)] := hl
  rw [fX6_isCopied.eq_1] at hf
  refine lv_aload_n X.hx X.hb dX6_isCopied_0 rfl (lv_at hl 0 rfl) ?_
  refine gfX6_155 X hH ho dX6_isCopied_1 ?_
  refine lv_if_le (tgt := 25) X.hx X.hb dX6_isCopied_4 (by decide) (fun c4 => ?_) (fun c4 => ?_)
  · have hf := it_p hf c4
    refine lv_iconst (v := 0) X.hx X.hb dX6_isCopied_25 (by decide) ?_
    exact g_zret X hH hS rfl (so1 hf) (by decide) dX6_isCopied_26
  · have hf := it_n hf c4
    refine lv_iload_n X.hx X.hb dX6_isCopied_7 rfl (lv_at hl 1 rfl) ?_
    refine lv_iconst (v := 0) X.hx X.hb dX6_isCopied_8 (by decide) ?_
    refine lv_aload_n X.hx X.hb dX6_isCopied_9 rfl (lv_at hl 0 rfl) ?_
    refine gfX6_228 X hH ho dX6_isCopied_10 ?_
    refine lv_iconst (v := 1) X.hx X.hb dX6_isCopied_13 (by decide) ?_
    refine lv_isub X.hx X.hb dX6_isCopied_14 ?_
    obtain ⟨r5, hr, hf⟩ := bd_e hf
    refine g_callSI (As := [.int x1, .int (0 : Int32), .int ((mI σ o 13) - (1 : Int32))]) (rest := []) X (kX6_in l  hr) ⟨cdX6_in, mlX6_85, stX6_in, iniX6⟩ hsX6_in ⟨Nat.le_of_ble_eq_true rfl, Nat.le_of_ble_eq_true rfl⟩ hH hS hl rfl rfl (Nat.le_of_ble_eq_true rfl) ⟨Nat.le_refl 0, Nat.le_refl 0⟩ dX6_isCopied_15 (fun H locs hH hS => ?_)
    refine lv_if_eq (tgt := 25) X.hx X.hb dX6_isCopied_18 (by decide) (fun c6 => ?_) (fun c6 => ?_)
    · have hf := it_p hf c6
      refine lv_iconst (v := 0) X.hx X.hb dX6_isCopied_25 (by decide) ?_
      exact g_zret X hH hS rfl (so1 hf) (by decide) dX6_isCopied_26
    · have hf := it_n hf c6
      refine lv_iconst (v := 1) X.hx X.hb dX6_isCopied_21 (by decide) ?_
      refine lv_goto (tgt := 26) X.hx X.hb dX6_isCopied_22 (by decide) ?_
      exact g_zret X hH hS rfl (so1 hf) (by decide) dX6_isCopied_26
set_option maxRecDepth 20000 in
set_option maxHeartbeats 4000000 in
theorem bX6_stoodAt_16 {p : Program} {l : Launch} {e : Env} {s : State} {m : MethodId} {args : Array Value} {below : List Frame} {meth : Method} {c : Code} {G : gG} (X : gX p s m args meth c yX6_stoodAt cX6_stoodAt 6 (some .int) RX6 G) {o : Nat} (ho : gsh G o = some 6)  {σ : Mem} {r : Int32} {k4 : Int32 → Int32 → Int32 → Option Int32} (hk4 : (∀ (x1 : Int32) (x2 : Int32) (x3 : Int32), k4 x1 x2 x3 = some r → ∀ (H : Heap) (locs : List Loc) (ls : Array Slot), gH G σ H → va_S (gAA G) s.heap H locs → lv_has ls 6 [(0, .ref (gad G o 0)), (1, .int x1), (2, .int x2), (3, .int x3)] → WB p l e 2 43 s m args below meth c G (some (.int r)) σ H locs (F0 m 4 ls []))) : (∀ (n : Nat) (x1 : Int32) (x2 : Int32) (x3 : Int32) (x4 : Int32) (x5 : Int32), fX6_stoodAt_16 k4 σ o n x1 x2 x3 x4 x5 = some r → ∀ (H : Heap) (locs : List Loc) (ls : Array Slot), gH G σ H → va_S (gAA G) s.heap H locs → lv_has ls 6 [(0, .ref (gad G o 0)), (1, .int x1), (2, .int x2), (3, .int x3), (4, .int x4), (5, .int x5)] → WB p l e 2 43 s m args below meth c G (some (.int r)) σ H locs (F0 m 16 ls [])) := by
  intro n
  induction n with
  | zero => intro x1 x2 x3 x4 x5 hf H locs ls hH hS hl; exact nomatch (show (none : Option Int32) = some _ from hf)
  | succ n ih =>
    intro x1 x2 x3 x4 x5 hf H locs ls hH hS hl
    rw [fX6_stoodAt_16.eq_2] at hf
    refine lv_iload X.hx X.hb dX6_stoodAt_16 (lv_at hl 5 rfl) ?_
    refine lv_aload_n X.hx X.hb dX6_stoodAt_18 rfl (lv_at hl 0 rfl) ?_
    refine gfX6_155 X hH ho dX6_stoodAt_19 ?_
    refine lv_icmp_ge (tgt := 69) X.hx X.hb dX6_stoodAt_22 (by decide) (fun c7 => ?_) (fun c7 => ?_)
    · have hf := it_p hf c7
      refine lv_iload_n X.hx X.hb dX6_stoodAt_69 rfl (lv_at hl 2 rfl) ?_
      refine lv_iload X.hx X.hb dX6_stoodAt_70 (lv_at hl 4 rfl) ?_
      refine lv_if_eq (tgt := 81) X.hx X.hb dX6_stoodAt_72 (by decide) (fun c8 => ?_) (fun c8 => ?_)
      · have hf := it_p hf c8
        refine lv_iconst (v := 0) X.hx X.hb dX6_stoodAt_81 (by decide) ?_
        refine lv_ior X.hx X.hb dX6_stoodAt_82 ?_
        refine lv_istore_n (lv' := [(2, .int (x2 ||| (0 : Int32))), (0, .ref (gad G o 0)), (1, .int x1), (3, .int x3), (4, .int x4), (5, .int x5)]) X.hx X.hb dX6_stoodAt_83 rfl hl (by decide) rfl (fun ls hl => ?_)
        refine lv_iinc (v := x3 + 1) (lv' := [(3, .int (x3 + 1)), (2, .int (x2 ||| (0 : Int32))), (0, .ref (gad G o 0)), (1, .int x1), (4, .int x4), (5, .int x5)]) X.hx X.hb dX6_stoodAt_84 hl (k := 3) rfl rfl (by decide) rfl (fun ls hl => ?_)
        refine lv_goto (tgt := 4) X.hx X.hb dX6_stoodAt_87 (by decide) ?_
        exact hk4 _ _ _  hf _ _ _ hH hS (lv_sub hl [2, 3, 1, 0] rfl)
      · have hf := it_n hf c8
        refine lv_iconst (v := 1) X.hx X.hb dX6_stoodAt_75 (by decide) ?_
        refine lv_iload_n X.hx X.hb dX6_stoodAt_76 rfl (lv_at hl 3 rfl) ?_
        refine lv_ishl X.hx X.hb dX6_stoodAt_77 ?_
        refine lv_goto (tgt := 82) X.hx X.hb dX6_stoodAt_78 (by decide) ?_
        refine lv_ior X.hx X.hb dX6_stoodAt_82 ?_
        refine lv_istore_n (lv' := [(2, .int (x2 ||| ((1 : Int32) <<< (x3 &&& 31)))), (0, .ref (gad G o 0)), (1, .int x1), (3, .int x3), (4, .int x4), (5, .int x5)]) X.hx X.hb dX6_stoodAt_83 rfl hl (by decide) rfl (fun ls hl => ?_)
        refine lv_iinc (v := x3 + 1) (lv' := [(3, .int (x3 + 1)), (2, .int (x2 ||| ((1 : Int32) <<< (x3 &&& 31)))), (0, .ref (gad G o 0)), (1, .int x1), (4, .int x4), (5, .int x5)]) X.hx X.hb dX6_stoodAt_84 hl (k := 3) rfl rfl (by decide) rfl (fun ls hl => ?_)
        refine lv_goto (tgt := 4) X.hx X.hb dX6_stoodAt_87 (by decide) ?_
        exact hk4 _ _ _  hf _ _ _ hH hS (lv_sub hl [2, 3, 1, 0] rfl)
    · have hf := it_n hf c7
      refine lv_iload X.hx X.hb dX6_stoodAt_25 (lv_at hl 4 rfl) ?_
      refine lv_if_eq (tgt := 60) X.hx X.hb dX6_stoodAt_27 (by decide) (fun c9 => ?_) (fun c9 => ?_)
      · have hf := it_p hf c9
        refine lv_iconst (v := 0) X.hx X.hb dX6_stoodAt_60 (by decide) ?_
        refine lv_istore (lv' := [(4, .int (0 : Int32)), (0, .ref (gad G o 0)), (1, .int x1), (2, .int x2), (3, .int x3), (5, .int x5)]) X.hx X.hb dX6_stoodAt_61 hl (by decide) rfl (fun ls hl => ?_)
        refine lv_iinc (v := x5 + 1) (lv' := [(5, .int (x5 + 1)), (4, .int (0 : Int32)), (0, .ref (gad G o 0)), (1, .int x1), (2, .int x2), (3, .int x3)]) X.hx X.hb dX6_stoodAt_63 hl (k := 5) rfl rfl (by decide) rfl (fun ls hl => ?_)
        refine lv_goto (tgt := 16) X.hx X.hb dX6_stoodAt_66 (by decide) ?_
        exact ih _ _ _ _ _  hf _ _ _ hH hS (lv_sub hl [2, 3, 4, 5, 1, 0] rfl)
      · have hf := it_n hf c9
        refine lv_aload_n X.hx X.hb dX6_stoodAt_30 rfl (lv_at hl 0 rfl) ?_
        refine lv_aload_n X.hx X.hb dX6_stoodAt_31 rfl (lv_at hl 0 rfl) ?_
        refine gfX6_39 X hH ho dX6_stoodAt_32 ?_
        refine lv_iload X.hx X.hb dX6_stoodAt_35 (lv_at hl 5 rfl) ?_
        obtain ⟨hg, hf⟩ := gd_e hf
        refine g_iald X hH ⟨_, ho, rfl⟩ hg dX6_stoodAt_37 ?_
        refine lv_iload_n X.hx X.hb dX6_stoodAt_38 rfl (lv_at hl 3 rfl) ?_
        obtain ⟨r10, hr, hf⟩ := bd_e hf
        refine g_callVI (As := [.int (mA σ o 14 x5.toNatClampNeg), .int x3]) (rest := []) X (kX6_madeOf l ho hr) (C := RX6) (T := TX6) (N := 39) (ci := 6) rfl ho ⟨cdX6_madeOf, mlX6_225, imX6_madeOf, seX6_madeOf, iniX6⟩ hvX6_madeOf ⟨Nat.le_of_ble_eq_true rfl, Nat.le_of_ble_eq_true rfl⟩ hH hS hl rfl rfl (Nat.le_of_ble_eq_true rfl) ⟨Nat.le_refl 0, Nat.le_refl 0⟩ dX6_stoodAt_39 (fun H locs hH hS => ?_)
        refine lv_aload_n X.hx X.hb dX6_stoodAt_42 rfl (lv_at hl 0 rfl) ?_
        refine gfX6_42 X hH ho dX6_stoodAt_43 ?_
        refine lv_iconst (v := 5) X.hx X.hb dX6_stoodAt_46 (by decide) ?_
        refine lv_iload X.hx X.hb dX6_stoodAt_47 (lv_at hl 5 rfl) ?_
        refine lv_imul X.hx X.hb dX6_stoodAt_49 ?_
        refine lv_iload_n X.hx X.hb dX6_stoodAt_50 rfl (lv_at hl 1 rfl) ?_
        refine lv_iadd X.hx X.hb dX6_stoodAt_51 ?_
        obtain ⟨hg, hf⟩ := gd_e hf
        refine g_iald X hH ⟨_, ho, rfl⟩ hg dX6_stoodAt_52 ?_
        refine lv_icmp_ne (tgt := 60) X.hx X.hb dX6_stoodAt_53 (by decide) (fun c11 => ?_) (fun c11 => ?_)
        · have hf := it_n hf c11
          refine lv_iconst (v := 0) X.hx X.hb dX6_stoodAt_60 (by decide) ?_
          refine lv_istore (lv' := [(4, .int (0 : Int32)), (0, .ref (gad G o 0)), (1, .int x1), (2, .int x2), (3, .int x3), (5, .int x5)]) X.hx X.hb dX6_stoodAt_61 hl (by decide) rfl (fun ls hl => ?_)
          refine lv_iinc (v := x5 + 1) (lv' := [(5, .int (x5 + 1)), (4, .int (0 : Int32)), (0, .ref (gad G o 0)), (1, .int x1), (2, .int x2), (3, .int x3)]) X.hx X.hb dX6_stoodAt_63 hl (k := 5) rfl rfl (by decide) rfl (fun ls hl => ?_)
          refine lv_goto (tgt := 16) X.hx X.hb dX6_stoodAt_66 (by decide) ?_
          exact ih _ _ _ _ _  hf _ _ _ hH hS (lv_sub hl [2, 3, 4, 5, 1, 0] rfl)
        · have hf := it_p hf c11
          refine lv_iconst (v := 1) X.hx X.hb dX6_stoodAt_56 (by decide) ?_
          refine lv_goto (tgt := 61) X.hx X.hb dX6_stoodAt_57 (by decide) ?_
          refine lv_istore (lv' := [(4, .int (1 : Int32)), (0, .ref (gad G o 0)), (1, .int x1), (2, .int x2), (3, .int x3), (5, .int x5)]) X.hx X.hb dX6_stoodAt_61 hl (by decide) rfl (fun ls hl => ?_)
          refine lv_iinc (v := x5 + 1) (lv' := [(5, .int (x5 + 1)), (4, .int (1 : Int32)), (0, .ref (gad G o 0)), (1, .int x1), (2, .int x2), (3, .int x3)]) X.hx X.hb dX6_stoodAt_63 hl (k := 5) rfl rfl (by decide) rfl (fun ls hl => ?_)
          refine lv_goto (tgt := 16) X.hx X.hb dX6_stoodAt_66 (by decide) ?_
          exact ih _ _ _ _ _  hf _ _ _ hH hS (lv_sub hl [2, 3, 4, 5, 1, 0] rfl)
set_option maxRecDepth 20000 in
set_option maxHeartbeats 4000000 in
theorem bX6_stoodAt_4 {p : Program} {l : Launch} {e : Env} {s : State} {m : MethodId} {args : Array Value} {below : List Frame} {meth : Method} {c : Code} {G : gG} (X : gX p s m args meth c yX6_stoodAt cX6_stoodAt 6 (some .int) RX6 G) {o : Nat} (ho : gsh G o = some 6)  {σ : Mem} {r : Int32} : (∀ (n : Nat) (x1 : Int32) (x2 : Int32) (x3 : Int32), fX6_stoodAt_4 σ o n x1 x2 x3 = some r → ∀ (H : Heap) (locs : List Loc) (ls : Array Slot), gH G σ H → va_S (gAA G) s.heap H locs → lv_has ls 6 [(0, .ref (gad G o 0)), (1, .int x1), (2, .int x2), (3, .int x3)] → WB p l e 2 43 s m args below meth c G (some (.int r)) σ H locs (F0 m 4 ls [])) := by
  intro n
  induction n with
  | zero => intro x1 x2 x3 hf H locs ls hH hS hl; exact nomatch (show (none : Option Int32) = some _ from hf)
  | succ n ih =>
    intro x1 x2 x3 hf H locs ls hH hS hl
    rw [fX6_stoodAt_4.eq_2] at hf
    refine lv_iload_n X.hx X.hb dX6_stoodAt_4 rfl (lv_at hl 3 rfl) ?_
    refine lv_bipush (v := 10) X.hx X.hb dX6_stoodAt_5 (by decide) ?_
    refine lv_icmp_ge (tgt := 90) X.hx X.hb dX6_stoodAt_7 (by decide) (fun c12 => ?_) (fun c12 => ?_)
    · have hf := it_p hf c12
      refine lv_iload_n X.hx X.hb dX6_stoodAt_90 rfl (lv_at hl 2 rfl) ?_
      exact g_iret X hH hS rfl (so1 hf) dX6_stoodAt_91
    · have hf := it_n hf c12
      refine lv_iconst (v := 1) X.hx X.hb dX6_stoodAt_10 (by decide) ?_
      refine lv_istore (lv' := [(4, .int (1 : Int32)), (0, .ref (gad G o 0)), (1, .int x1), (2, .int x2), (3, .int x3)]) X.hx X.hb dX6_stoodAt_11 hl (by decide) rfl (fun ls hl => ?_)
      refine lv_iconst (v := 0) X.hx X.hb dX6_stoodAt_13 (by decide) ?_
      refine lv_istore (lv' := [(5, .int (0 : Int32)), (4, .int (1 : Int32)), (0, .ref (gad G o 0)), (1, .int x1), (2, .int x2), (3, .int x3)]) X.hx X.hb dX6_stoodAt_14 hl (by decide) rfl (fun ls hl => ?_)
      exact bX6_stoodAt_16 X  ho ih _ _ _ _ _ _  hf _ _ _ hH hS (lv_sub hl [2, 3, 4, 5, 1, 0] rfl)
set_option maxRecDepth 20000 in
set_option maxHeartbeats 4000000 in
theorem kX6_stoodAt (l : Launch) {G : gG} {σ : Mem} {r : Int32} {o : Nat} {x1 : Int32} (ho : gsh G o = some 6)  (hf : fX6_stoodAt σ o x1 = some r) : CM l yX6_stoodAt cX6_stoodAt 6 (some .int) 2 43 G σ [.ref (gad G o 0), .int x1] (some (.int r)) σ := by
  refine CM.of (by decide) (Nat.le_of_ble_eq_true rfl) (fun p e s m below meth c ls X hH hl => ?_)
  have X : gX p s m _ meth c yX6_stoodAt cX6_stoodAt 6 (some .int) RX6 G := X
  have hS : va_S (gAA G) s.heap s.heap [] := va_S.rf
  have hl : lv_has ls 6 [(0, .ref (gad G o 0)), (1, .int x1)] := hl
  rw [fX6_stoodAt.eq_1] at hf
  refine lv_iconst (v := 0) X.hx X.hb dX6_stoodAt_0 (by decide) ?_
  refine lv_istore_n (lv' := [(2, .int (0 : Int32)), (0, .ref (gad G o 0)), (1, .int x1)]) X.hx X.hb dX6_stoodAt_1 rfl hl (by decide) rfl (fun ls hl => ?_)
  refine lv_iconst (v := 0) X.hx X.hb dX6_stoodAt_2 (by decide) ?_
  refine lv_istore_n (lv' := [(3, .int (0 : Int32)), (2, .int (0 : Int32)), (0, .ref (gad G o 0)), (1, .int x1)]) X.hx X.hb dX6_stoodAt_3 rfl hl (by decide) rfl (fun ls hl => ?_)
  exact bX6_stoodAt_4 X  ho  _ _ _ _  hf _ _ _ hH hS (lv_sub hl [2, 3, 1, 0] rfl)
set_option maxRecDepth 20000 in
set_option maxHeartbeats 4000000 in
theorem kX6_stood (l : Launch) {G : gG} {σ : Mem} {r : Int32} {o : Nat} {x1 : Int32} (ho : gsh G o = some 6)  (hf : fX6_stood σ o x1 = some r) : CM l yX6_stood cX6_stood 2 (some .int) 3 68 G σ [.ref (gad G o 0), .int x1] (some (.int r)) σ := by
  refine CM.of (by decide) (Nat.le_of_ble_eq_true rfl) (fun p e s m below meth c ls X hH hl => ?_)
  have X : gX p s m _ meth c yX6_stood cX6_stood 2 (some .int) RX6 G := X
  have hS : va_S (gAA G) s.heap s.heap [] := va_S.rf
  have hl : lv_has ls 2 [(0, .ref (gad G o 0)), (1, .int x1)] := hl
  rw [fX6_stood.eq_1] at hf
  refine lv_aload_n X.hx X.hb dX6_stood_0 rfl (lv_at hl 0 rfl) ?_
  refine lv_iload_n X.hx X.hb dX6_stood_1 rfl (lv_at hl 1 rfl) ?_
  obtain ⟨r4, hr, hf⟩ := bd_e hf
  refine g_callVI (As := [.int x1]) (rest := []) X (kX6_isCopied l ho hr) (C := RX6) (T := TX6) (N := 39) (ci := 6) rfl ho ⟨cdX6_isCopied, mlX6_231, imX6_isCopied, seX6_isCopied, iniX6⟩ hvX6_isCopied ⟨Nat.le_of_ble_eq_true rfl, Nat.le_of_ble_eq_true rfl⟩ hH hS hl rfl rfl (Nat.le_of_ble_eq_true rfl) ⟨Nat.le_refl 0, Nat.le_refl 0⟩ dX6_stood_2 (fun H locs hH hS => ?_)
  refine lv_if_eq (tgt := 16) X.hx X.hb dX6_stood_5 (by decide) (fun c5 => ?_) (fun c5 => ?_)
  · have hf := it_p hf c5
    refine lv_iconst (v := -1) X.hx X.hb dX6_stood_16 (by decide) ?_
    exact g_iret X hH hS rfl (so1 hf) dX6_stood_17
  · have hf := it_n hf c5
    refine lv_aload_n X.hx X.hb dX6_stood_8 rfl (lv_at hl 0 rfl) ?_
    refine lv_iload_n X.hx X.hb dX6_stood_9 rfl (lv_at hl 1 rfl) ?_
    obtain ⟨r6, hr, hf⟩ := bd_e hf
    refine g_callVI (As := [.int x1]) (rest := []) X (kX6_stoodAt l ho hr) (C := RX6) (T := TX6) (N := 39) (ci := 6) rfl ho ⟨cdX6_stoodAt, mlX6_234, imX6_stoodAt, seX6_stoodAt, iniX6⟩ hvX6_stoodAt ⟨Nat.le_of_ble_eq_true rfl, Nat.le_of_ble_eq_true rfl⟩ hH hS hl rfl rfl (Nat.le_of_ble_eq_true rfl) ⟨Nat.le_refl 0, Nat.le_refl 0⟩ dX6_stood_10 (fun H locs hH hS => ?_)
    refine lv_goto (tgt := 17) X.hx X.hb dX6_stood_13 (by decide) ?_
    exact g_iret X hH hS rfl (so1 hf) dX6_stood_17
set_option maxRecDepth 20000 in
set_option maxHeartbeats 4000000 in
theorem bX6_sureOf_2 {p : Program} {l : Launch} {e : Env} {s : State} {m : MethodId} {args : Array Value} {below : List Frame} {meth : Method} {c : Code} {G : gG} (X : gX p s m args meth c yX6_sureOf cX6_sureOf 3 (some .int) RX6 G) {o : Nat} (ho : gsh G o = some 6)  {σ : Mem} {r : Int32} : (∀ (n : Nat) (x1 : Int32) (x2 : Int32), fX6_sureOf_2 o n x1 x2 = some r → ∀ (H : Heap) (locs : List Loc) (ls : Array Slot), gH G σ H → va_S (gAA G) s.heap H locs → lv_has ls 3 [(1, .int x1), (2, .int x2)] → WB p l e 1 21 s m args below meth c G (some (.int r)) σ H locs (F0 m 2 ls [])) := by
  intro n
  induction n with
  | zero => intro x1 x2 hf H locs ls hH hS hl; exact nomatch (show (none : Option Int32) = some _ from hf)
  | succ n ih =>
    intro x1 x2 hf H locs ls hH hS hl
    rw [fX6_sureOf_2.eq_2] at hf
    refine lv_iload_n X.hx X.hb dX6_sureOf_2 rfl (lv_at hl 0 rfl) ?_
    refine lv_iload_n X.hx X.hb dX6_sureOf_3 rfl (lv_at hl 1 rfl) ?_
    obtain ⟨r3, hr, hf⟩ := bd_e hf
    refine g_callSI (As := [.int x1, .int x2]) (rest := []) X (kX6_has l  hr) ⟨cdX6_has, mlX6_125, stX6_has, iniX6⟩ hsX6_has ⟨Nat.le_of_ble_eq_true rfl, Nat.le_of_ble_eq_true rfl⟩ hH hS hl rfl rfl (Nat.le_of_ble_eq_true rfl) ⟨Nat.le_refl 0, Nat.le_refl 0⟩ dX6_sureOf_4 (fun H locs hH hS => ?_)
    refine lv_if_ne (tgt := 16) X.hx X.hb dX6_sureOf_7 (by decide) (fun c4 => ?_) (fun c4 => ?_)
    · have hf := it_n hf c4
      refine lv_iload_n X.hx X.hb dX6_sureOf_16 rfl (lv_at hl 1 rfl) ?_
      exact g_iret X hH hS rfl (so1 hf) dX6_sureOf_17
    · have hf := it_p hf c4
      refine lv_iinc (v := x2 + 1) (lv' := [(2, .int (x2 + 1)), (1, .int x1)]) X.hx X.hb dX6_sureOf_10 hl (k := 1) rfl rfl (by decide) rfl (fun ls hl => ?_)
      refine lv_goto (tgt := 2) X.hx X.hb dX6_sureOf_13 (by decide) ?_
      exact ih _ _  hf _ _ _ hH hS (lv_sub hl [1, 0] rfl)
set_option maxRecDepth 20000 in
set_option maxHeartbeats 4000000 in
theorem kX6_sureOf (l : Launch) {G : gG} {σ : Mem} {r : Int32} {o : Nat} {x1 : Int32} (ho : gsh G o = some 6)  (hf : fX6_sureOf o x1 = some r) : CM l yX6_sureOf cX6_sureOf 3 (some .int) 1 21 G σ [.ref (gad G o 0), .int x1] (some (.int r)) σ := by
  refine CM.of (by decide) (Nat.le_of_ble_eq_true rfl) (fun p e s m below meth c ls X hH hl => ?_)
  have X : gX p s m _ meth c yX6_sureOf cX6_sureOf 3 (some .int) RX6 G := X
  have hS : va_S (gAA G) s.heap s.heap [] := va_S.rf
  have hl : lv_has ls 3 [(0, .ref (gad G o 0)), (1, .int x1)] := hl
  rw [fX6_sureOf.eq_1] at hf
  refine lv_iconst (v := 0) X.hx X.hb dX6_sureOf_0 (by decide) ?_
  refine lv_istore_n (lv' := [(2, .int (0 : Int32)), (0, .ref (gad G o 0)), (1, .int x1)]) X.hx X.hb dX6_sureOf_1 rfl hl (by decide) rfl (fun ls hl => ?_)
  exact bX6_sureOf_2 X  ho  _ _ _  hf _ _ _ hH hS (lv_sub hl [2, 0] rfl)
set_option maxRecDepth 20000 in
set_option maxHeartbeats 4000000 in
theorem bX6_ways_15 {p : Program} {l : Launch} {e : Env} {s : State} {m : MethodId} {args : Array Value} {below : List Frame} {meth : Method} {c : Code} {G : gG} (X : gX p s m args meth c yX6_ways cX6_ways 3 (some .int) RX6 G) {o : Nat} (ho : gsh G o = some 6)  {σ : Mem} {r : Int32} : (∀ (n : Nat) (x1 : Int32) (x2 : Int32), fX6_ways_15 σ o n x1 x2 = some r → ∀ (H : Heap) (locs : List Loc) (ls : Array Slot), gH G σ H → va_S (gAA G) s.heap H locs → lv_has ls 3 [(0, .ref (gad G o 0)), (1, .int x1), (2, .int x2)] → WB p l e 3 68 s m args below meth c G (some (.int r)) σ H locs (F0 m 15 ls [])) := by
  intro n
  induction n with
  | zero => intro x1 x2 hf H locs ls hH hS hl; exact nomatch (show (none : Option Int32) = some _ from hf)
  | succ n ih =>
    intro x1 x2 hf H locs ls hH hS hl
    rw [fX6_ways_15.eq_2] at hf
    refine lv_aload_n X.hx X.hb dX6_ways_15 rfl (lv_at hl 0 rfl) ?_
    refine lv_iload_n X.hx X.hb dX6_ways_16 rfl (lv_at hl 2 rfl) ?_
    obtain ⟨r6, hr, hf⟩ := bd_e hf
    refine g_callVI (As := [.int x2]) (rest := []) X (kX6_isCopied l ho hr) (C := RX6) (T := TX6) (N := 39) (ci := 6) rfl ho ⟨cdX6_isCopied, mlX6_231, imX6_isCopied, seX6_isCopied, iniX6⟩ hvX6_isCopied ⟨Nat.le_of_ble_eq_true rfl, Nat.le_of_ble_eq_true rfl⟩ hH hS hl rfl rfl (Nat.le_of_ble_eq_true rfl) ⟨Nat.le_refl 0, Nat.le_refl 0⟩ dX6_ways_17 (fun H locs hH hS => ?_)
    refine lv_if_eq (tgt := 40) X.hx X.hb dX6_ways_20 (by decide) (fun c7 => ?_) (fun c7 => ?_)
    · have hf := it_p hf c7
      refine lv_iload_n X.hx X.hb dX6_ways_40 rfl (lv_at hl 1 rfl) ?_
      exact g_iret X hH hS rfl (so1 hf) dX6_ways_41
    · have hf := it_n hf c7
      refine lv_iload_n X.hx X.hb dX6_ways_23 rfl (lv_at hl 1 rfl) ?_
      refine lv_aload_n X.hx X.hb dX6_ways_24 rfl (lv_at hl 0 rfl) ?_
      refine lv_iload_n X.hx X.hb dX6_ways_25 rfl (lv_at hl 2 rfl) ?_
      obtain ⟨r8, hr, hf⟩ := bd_e hf
      refine g_callVI (As := [.int x2]) (rest := [.int x1]) X (kX6_stoodAt l ho hr) (C := RX6) (T := TX6) (N := 39) (ci := 6) rfl ho ⟨cdX6_stoodAt, mlX6_234, imX6_stoodAt, seX6_stoodAt, iniX6⟩ hvX6_stoodAt ⟨Nat.le_of_ble_eq_true rfl, Nat.le_of_ble_eq_true rfl⟩ hH hS hl rfl rfl (Nat.le_of_ble_eq_true rfl) ⟨Nat.le_refl 0, Nat.le_refl 0⟩ dX6_ways_26 (fun H locs hH hS => ?_)
      obtain ⟨r9, hr, hf⟩ := bd_e hf
      refine g_callSI (As := [.int r8]) (rest := [.int x1]) X (kX6_bits l  hr) ⟨cdX6_bits, mlX6_188, stX6_bits, iniX6⟩ hsX6_bits ⟨Nat.le_of_ble_eq_true rfl, Nat.le_of_ble_eq_true rfl⟩ hH hS hl rfl rfl (Nat.le_of_ble_eq_true rfl) ⟨Nat.le_refl 0, Nat.le_refl 0⟩ dX6_ways_29 (fun H locs hH hS => ?_)
      refine lv_imul X.hx X.hb dX6_ways_32 ?_
      refine lv_istore_n (lv' := [(1, .int (x1 * r9)), (0, .ref (gad G o 0)), (2, .int x2)]) X.hx X.hb dX6_ways_33 rfl hl (by decide) rfl (fun ls hl => ?_)
      refine lv_iinc (v := x2 + 1) (lv' := [(2, .int (x2 + 1)), (1, .int (x1 * r9)), (0, .ref (gad G o 0))]) X.hx X.hb dX6_ways_34 hl (k := 2) rfl rfl (by decide) rfl (fun ls hl => ?_)
      refine lv_goto (tgt := 15) X.hx X.hb dX6_ways_37 (by decide) ?_
      exact ih _ _  hf _ _ _ hH hS (lv_sub hl [2, 1, 0] rfl)
set_option maxRecDepth 20000 in
set_option maxHeartbeats 4000000 in
theorem kX6_ways (l : Launch) {G : gG} {σ : Mem} {r : Int32} {o : Nat} (ho : gsh G o = some 6)  (hf : fX6_ways σ o = some r) : CM l yX6_ways cX6_ways 3 (some .int) 3 68 G σ [.ref (gad G o 0)] (some (.int r)) σ := by
  refine CM.of (by decide) (Nat.le_of_ble_eq_true rfl) (fun p e s m below meth c ls X hH hl => ?_)
  have X : gX p s m _ meth c yX6_ways cX6_ways 3 (some .int) RX6 G := X
  have hS : va_S (gAA G) s.heap s.heap [] := va_S.rf
  have hl : lv_has ls 3 [(0, .ref (gad G o 0))] := hl
  rw [fX6_ways.eq_1] at hf
  refine lv_aload_n X.hx X.hb dX6_ways_0 rfl (lv_at hl 0 rfl) ?_
  refine gfX6_155 X hH ho dX6_ways_1 ?_
  refine lv_if_le (tgt := 11) X.hx X.hb dX6_ways_4 (by decide) (fun c10 => ?_) (fun c10 => ?_)
  · have hf := it_p hf c10
    refine lv_iconst (v := 0) X.hx X.hb dX6_ways_11 (by decide) ?_
    refine lv_istore_n (lv' := [(1, .int (0 : Int32)), (0, .ref (gad G o 0))]) X.hx X.hb dX6_ways_12 rfl hl (by decide) rfl (fun ls hl => ?_)
    refine lv_iconst (v := 0) X.hx X.hb dX6_ways_13 (by decide) ?_
    refine lv_istore_n (lv' := [(2, .int (0 : Int32)), (1, .int (0 : Int32)), (0, .ref (gad G o 0))]) X.hx X.hb dX6_ways_14 rfl hl (by decide) rfl (fun ls hl => ?_)
    exact bX6_ways_15 X  ho  _ _ _  hf _ _ _ hH hS (lv_sub hl [2, 1, 0] rfl)
  · have hf := it_n hf c10
    refine lv_iconst (v := 1) X.hx X.hb dX6_ways_7 (by decide) ?_
    refine lv_goto (tgt := 12) X.hx X.hb dX6_ways_8 (by decide) ?_
    refine lv_istore_n (lv' := [(1, .int (1 : Int32)), (0, .ref (gad G o 0))]) X.hx X.hb dX6_ways_12 rfl hl (by decide) rfl (fun ls hl => ?_)
    refine lv_iconst (v := 0) X.hx X.hb dX6_ways_13 (by decide) ?_
    refine lv_istore_n (lv' := [(2, .int (0 : Int32)), (1, .int (1 : Int32)), (0, .ref (gad G o 0))]) X.hx X.hb dX6_ways_14 rfl hl (by decide) rfl (fun ls hl => ?_)
    exact bX6_ways_15 X  ho  _ _ _  hf _ _ _ hH hS (lv_sub hl [2, 1, 0] rfl)
set_option maxRecDepth 20000 in
set_option maxHeartbeats 4000000 in
theorem kX6_letters (l : Launch) {G : gG} {σ : Mem} {r : Int32} {o : Nat} {x1 : Int32} (ho : gsh G o = some 6)  (hf : fX6_letters σ o x1 = some r) : CM l yX6_letters cX6_letters 3 (some .int) 4 90 G σ [.ref (gad G o 0), .int x1] (some (.int r)) σ := by
  refine CM.of (by decide) (Nat.le_of_ble_eq_true rfl) (fun p e s m below meth c ls X hH hl => ?_)
  have X : gX p s m _ meth c yX6_letters cX6_letters 3 (some .int) RX6 G := X
  have hS : va_S (gAA G) s.heap s.heap [] := va_S.rf
  have hl : lv_has ls 3 [(0, .ref (gad G o 0)), (1, .int x1)] := hl
  rw [fX6_letters.eq_1] at hf
  refine lv_iload_n X.hx X.hb dX6_letters_0 rfl (lv_at hl 1 rfl) ?_
  refine lv_bipush (v := -9) X.hx X.hb dX6_letters_1 (by decide) ?_
  refine lv_icmp_ne (tgt := 11) X.hx X.hb dX6_letters_3 (by decide) (fun c11 => ?_) (fun c11 => ?_)
  · have hf := it_n hf c11
    refine lv_aload_n X.hx X.hb dX6_letters_11 rfl (lv_at hl 0 rfl) ?_
    refine lv_iload_n X.hx X.hb dX6_letters_12 rfl (lv_at hl 1 rfl) ?_
    obtain ⟨r12, hr, hf⟩ := bd_e hf
    refine g_callVI (As := [.int x1]) (rest := []) X (kX6_isCopied l ho hr) (C := RX6) (T := TX6) (N := 39) (ci := 6) rfl ho ⟨cdX6_isCopied, mlX6_231, imX6_isCopied, seX6_isCopied, iniX6⟩ hvX6_isCopied ⟨Nat.le_of_ble_eq_true rfl, Nat.le_of_ble_eq_true rfl⟩ hH hS hl rfl rfl (Nat.le_of_ble_eq_true rfl) ⟨Nat.le_refl 0, Nat.le_refl 0⟩ dX6_letters_13 (fun H locs hH hS => ?_)
    refine lv_if_ne (tgt := 21) X.hx X.hb dX6_letters_16 (by decide) (fun c13 => ?_) (fun c13 => ?_)
    · have hf := it_n hf c13
      refine lv_aload_n X.hx X.hb dX6_letters_21 rfl (lv_at hl 0 rfl) ?_
      refine lv_iload_n X.hx X.hb dX6_letters_22 rfl (lv_at hl 1 rfl) ?_
      obtain ⟨r14, hr, hf⟩ := bd_e hf
      refine g_callVI (As := [.int x1]) (rest := []) X (kX6_stoodAt l ho hr) (C := RX6) (T := TX6) (N := 39) (ci := 6) rfl ho ⟨cdX6_stoodAt, mlX6_234, imX6_stoodAt, seX6_stoodAt, iniX6⟩ hvX6_stoodAt ⟨Nat.le_of_ble_eq_true rfl, Nat.le_of_ble_eq_true rfl⟩ hH hS hl rfl rfl (Nat.le_of_ble_eq_true rfl) ⟨Nat.le_refl 0, Nat.le_refl 0⟩ dX6_letters_23 (fun H locs hH hS => ?_)
      refine lv_istore_n (lv' := [(2, .int r14), (0, .ref (gad G o 0)), (1, .int x1)]) X.hx X.hb dX6_letters_26 rfl hl (by decide) rfl (fun ls hl => ?_)
      refine lv_aload_n X.hx X.hb dX6_letters_27 rfl (lv_at hl 1 rfl) ?_
      obtain ⟨r15, hr, hf⟩ := bd_e hf
      refine g_callVI (As := []) (rest := []) X (kX6_ways l ho hr) (C := RX6) (T := TX6) (N := 39) (ci := 6) rfl ho ⟨cdX6_ways, mlX6_237, imX6_ways, seX6_ways, iniX6⟩ hvX6_ways ⟨Nat.le_of_ble_eq_true rfl, Nat.le_of_ble_eq_true rfl⟩ hH hS hl rfl rfl (Nat.le_of_ble_eq_true rfl) ⟨Nat.le_refl 0, Nat.le_refl 0⟩ dX6_letters_28 (fun H locs hH hS => ?_)
      refine lv_if_ne (tgt := 39) X.hx X.hb dX6_letters_31 (by decide) (fun c16 => ?_) (fun c16 => ?_)
      · have hf := it_n hf c16
        refine lv_iload_n X.hx X.hb dX6_letters_39 rfl (lv_at hl 0 rfl) ?_
        obtain ⟨r17, hr, hf⟩ := bd_e hf
        refine g_callSI (As := [.int r14]) (rest := []) X (kX6_bits l  hr) ⟨cdX6_bits, mlX6_188, stX6_bits, iniX6⟩ hsX6_bits ⟨Nat.le_of_ble_eq_true rfl, Nat.le_of_ble_eq_true rfl⟩ hH hS hl rfl rfl (Nat.le_of_ble_eq_true rfl) ⟨Nat.le_refl 0, Nat.le_refl 0⟩ dX6_letters_40 (fun H locs hH hS => ?_)
        refine lv_iconst (v := 1) X.hx X.hb dX6_letters_43 (by decide) ?_
        refine lv_icmp_le (tgt := 52) X.hx X.hb dX6_letters_44 (by decide) (fun c18 => ?_) (fun c18 => ?_)
        · have hf := it_p hf c18
          refine lv_aload_n X.hx X.hb dX6_letters_52 rfl (lv_at hl 1 rfl) ?_
          refine lv_iload_n X.hx X.hb dX6_letters_53 rfl (lv_at hl 0 rfl) ?_
          obtain ⟨r19, hr, hf⟩ := bd_e hf
          refine g_callVI (As := [.int r14]) (rest := []) X (kX6_sureOf l ho hr) (C := RX6) (T := TX6) (N := 39) (ci := 6) rfl ho ⟨cdX6_sureOf, mlX6_240, imX6_sureOf, seX6_sureOf, iniX6⟩ hvX6_sureOf ⟨Nat.le_of_ble_eq_true rfl, Nat.le_of_ble_eq_true rfl⟩ hH hS hl rfl rfl (Nat.le_of_ble_eq_true rfl) ⟨Nat.le_refl 0, Nat.le_refl 0⟩ dX6_letters_54 (fun H locs hH hS => ?_)
          exact g_iret X hH hS rfl (so1 hf) dX6_letters_57
        · have hf := it_n hf c18
          refine lv_bipush (v := -5) X.hx X.hb dX6_letters_47 (by decide) ?_
          refine lv_goto (tgt := 57) X.hx X.hb dX6_letters_49 (by decide) ?_
          exact g_iret X hH hS rfl (so1 hf) dX6_letters_57
      · have hf := it_p hf c16
        refine lv_bipush (v := -9) X.hx X.hb dX6_letters_34 (by decide) ?_
        refine lv_goto (tgt := 57) X.hx X.hb dX6_letters_36 (by decide) ?_
        exact g_iret X hH hS rfl (so1 hf) dX6_letters_57
    · have hf := it_p hf c13
      refine lv_iconst (v := -1) X.hx X.hb dX6_letters_19 (by decide) ?_
      exact g_iret X hH hS rfl (so1 hf) dX6_letters_20
  · have hf := it_p hf c11
    refine lv_aload_n X.hx X.hb dX6_letters_6 rfl (lv_at hl 0 rfl) ?_
    obtain ⟨r20, hr, hf⟩ := bd_e hf
    refine g_callVI (As := []) (rest := []) X (kX6_ways l ho hr) (C := RX6) (T := TX6) (N := 39) (ci := 6) rfl ho ⟨cdX6_ways, mlX6_237, imX6_ways, seX6_ways, iniX6⟩ hvX6_ways ⟨Nat.le_of_ble_eq_true rfl, Nat.le_of_ble_eq_true rfl⟩ hH hS hl rfl rfl (Nat.le_of_ble_eq_true rfl) ⟨Nat.le_refl 0, Nat.le_refl 0⟩ dX6_letters_7 (fun H locs hH hS => ?_)
    exact g_iret X hH hS rfl (so1 hf) dX6_letters_10
set_option maxRecDepth 20000 in
set_option maxHeartbeats 4000000 in
theorem bX6_reads_110 {p : Program} {l : Launch} {e : Env} {s : State} {m : MethodId} {args : Array Value} {below : List Frame} {meth : Method} {c : Code} {G : gG} (X : gX p s m args meth c yX6_reads cX6_reads 5 (some .boolean) RX6 G) {o : Nat} (ho : gsh G o = some 6)  {r : Int32} {σ' : Mem} : (∀ (σ : Mem) (x2 : Int32) (x3 : Int32), fX6_reads_110 o σ x2 x3 = some (r, σ') → ∀ (H : Heap) (locs : List Loc) (ls : Array Slot), gH G σ H → va_S (gAA G) s.heap H locs → lv_has ls 5 [(2, .int x2), (3, .int x3)] → WB p l e 1 22 s m args below meth c G (some (.int r)) σ' H locs (F0 m 110 ls [])) := by
  intro σ x2 x3 hf H locs ls hH hS hl
  rw [fX6_reads_110.eq_1] at hf
  refine lv_iload_n X.hx X.hb dX6_reads_110 rfl (lv_at hl 0 rfl) ?_
  refine lv_if_eq (tgt := 123) X.hx X.hb dX6_reads_111 (by decide) (fun c13 => ?_) (fun c13 => ?_)
  · have hf := it_p hf c13
    refine lv_iconst (v := 0) X.hx X.hb dX6_reads_123 (by decide) ?_
    have e := so2 hf
    rw [e.2] at hH
    exact g_zret X hH hS rfl e.1 (by decide) dX6_reads_124
  · have hf := it_n hf c13
    refine lv_iload_n X.hx X.hb dX6_reads_114 rfl (lv_at hl 1 rfl) ?_
    refine lv_iconst (v := 1) X.hx X.hb dX6_reads_115 (by decide) ?_
    refine lv_icmp_ne (tgt := 123) X.hx X.hb dX6_reads_116 (by decide) (fun c14 => ?_) (fun c14 => ?_)
    · have hf := it_n hf c14
      refine lv_iconst (v := 0) X.hx X.hb dX6_reads_123 (by decide) ?_
      have e := so2 hf
      rw [e.2] at hH
      exact g_zret X hH hS rfl e.1 (by decide) dX6_reads_124
    · have hf := it_p hf c14
      refine lv_iconst (v := 1) X.hx X.hb dX6_reads_119 (by decide) ?_
      refine lv_goto (tgt := 124) X.hx X.hb dX6_reads_120 (by decide) ?_
      have e := so2 hf
      rw [e.2] at hH
      exact g_zret X hH hS rfl e.1 (by decide) dX6_reads_124
set_option maxRecDepth 20000 in
set_option maxHeartbeats 4000000 in
theorem bX6_reads_55 {p : Program} {l : Launch} {e : Env} {s : State} {m : MethodId} {args : Array Value} {below : List Frame} {meth : Method} {c : Code} {G : gG} (X : gX p s m args meth c yX6_reads cX6_reads 5 (some .boolean) RX6 G) {o : Nat} (ho : gsh G o = some 6)  {r : Int32} {σ' : Mem} {k16 : Mem → Int32 → Int32 → Option (Int32 × Mem)} (hk16 : (∀ (σ : Mem) (x2 : Int32) (x3 : Int32), k16 σ x2 x3 = some (r, σ') → ∀ (H : Heap) (locs : List Loc) (ls : Array Slot), gH G σ H → va_S (gAA G) s.heap H locs → lv_has ls 5 [(0, .ref (gad G o 0)), (2, .int x2), (3, .int x3)] → WB p l e 1 22 s m args below meth c G (some (.int r)) σ' H locs (F0 m 16 ls []))) : (∀ (n : Nat) (σ : Mem) (x2 : Int32) (x3 : Int32) (x4 : Int32), fX6_reads_55 k16 o n σ x2 x3 x4 = some (r, σ') → ∀ (H : Heap) (locs : List Loc) (ls : Array Slot), gH G σ H → va_S (gAA G) s.heap H locs → lv_has ls 5 [(0, .ref (gad G o 0)), (2, .int x2), (3, .int x3), (4, .int x4)] → WB p l e 1 22 s m args below meth c G (some (.int r)) σ' H locs (F0 m 55 ls [])) := by
  intro n
  induction n with
  | zero => intro σ x2 x3 x4 hf H locs ls hH hS hl; exact nomatch (show (none : Option (Int32 × Mem)) = some _ from hf)
  | succ n ih =>
    intro σ x2 x3 x4 hf H locs ls hH hS hl
    rw [fX6_reads_55.eq_2] at hf
    refine lv_iload X.hx X.hb dX6_reads_55 (lv_at hl 3 rfl) ?_
    refine lv_if_le (tgt := 82) X.hx X.hb dX6_reads_57 (by decide) (fun c15 => ?_) (fun c15 => ?_)
    · have hf := it_p hf c15
      refine lv_aload_n X.hx X.hb dX6_reads_82 rfl (lv_at hl 0 rfl) ?_
      refine gfX6_73 X hH ho dX6_reads_83 ?_
      refine lv_iconst (v := 0) X.hx X.hb dX6_reads_86 (by decide) ?_
      refine lv_iload_n X.hx X.hb dX6_reads_87 rfl (lv_at hl 2 rfl) ?_
      refine lv_bipush (v := 11) X.hx X.hb dX6_reads_88 (by decide) ?_
      refine lv_irem X.hx X.hb dX6_reads_90 (by decide) ?_
      obtain ⟨hg, hf⟩ := gd_e hf
      refine g_iast X hH hS ⟨_, ho, rfl⟩ hg dX6_reads_91 (fun H locs hH hS => ?_)
      obtain ⟨σ16, he, hf⟩ := stp_e hf
      rw [← he] at hH
      clear he
      refine lv_aload_n X.hx X.hb dX6_reads_92 rfl (lv_at hl 0 rfl) ?_
      refine lv_dup X.hx X.hb dX6_reads_93 rfl ?_
      refine gfX6_243 X hH ho dX6_reads_94 ?_
      refine lv_iconst (v := 1) X.hx X.hb dX6_reads_97 (by decide) ?_
      refine lv_iadd X.hx X.hb dX6_reads_98 ?_
      refine pfX6_243 X hH hS ho  dX6_reads_99 (fun H locs hH hS => ?_)
      obtain ⟨σ17, he, hf⟩ := stp_e hf
      rw [← he] at hH
      clear he
      refine lv_iload_n X.hx X.hb dX6_reads_102 rfl (lv_at hl 2 rfl) ?_
      refine lv_bipush (v := 11) X.hx X.hb dX6_reads_103 (by decide) ?_
      refine lv_idiv X.hx X.hb dX6_reads_105 (by decide) ?_
      refine lv_istore_n (lv' := [(3, .int (x3 / (11 : Int32))), (0, .ref (gad G o 0)), (2, .int x2), (4, .int x4)]) X.hx X.hb dX6_reads_106 rfl hl (by decide) rfl (fun ls hl => ?_)
      refine lv_goto (tgt := 16) X.hx X.hb dX6_reads_107 (by decide) ?_
      exact hk16 _ _ _  hf _ _ _ hH hS (lv_sub hl [1, 2, 0] rfl)
    · have hf := it_n hf c15
      refine lv_aload_n X.hx X.hb dX6_reads_60 rfl (lv_at hl 0 rfl) ?_
      refine gfX6_73 X hH ho dX6_reads_61 ?_
      refine lv_iload X.hx X.hb dX6_reads_64 (lv_at hl 3 rfl) ?_
      refine lv_aload_n X.hx X.hb dX6_reads_66 rfl (lv_at hl 0 rfl) ?_
      refine gfX6_73 X hH ho dX6_reads_67 ?_
      refine lv_iload X.hx X.hb dX6_reads_70 (lv_at hl 3 rfl) ?_
      refine lv_iconst (v := 1) X.hx X.hb dX6_reads_72 (by decide) ?_
      refine lv_isub X.hx X.hb dX6_reads_73 ?_
      obtain ⟨hg, hf⟩ := gd_e hf
      refine g_iald X hH ⟨_, ho, rfl⟩ hg dX6_reads_74 ?_
      obtain ⟨hg, hf⟩ := gd_e hf
      refine g_iast X hH hS ⟨_, ho, rfl⟩ hg dX6_reads_75 (fun H locs hH hS => ?_)
      obtain ⟨σ18, he, hf⟩ := stp_e hf
      rw [← he] at hH
      clear he
      refine lv_iinc (v := x4 + (-1)) (lv' := [(4, .int (x4 + (-1))), (0, .ref (gad G o 0)), (2, .int x2), (3, .int x3)]) X.hx X.hb dX6_reads_76 hl (k := 3) rfl rfl (by decide) rfl (fun ls hl => ?_)
      refine lv_goto (tgt := 55) X.hx X.hb dX6_reads_79 (by decide) ?_
      exact ih _ _ _ _  hf _ _ _ hH hS (lv_sub hl [1, 2, 3, 0] rfl)
set_option maxRecDepth 20000 in
set_option maxHeartbeats 4000000 in
theorem bX6_reads_16 {p : Program} {l : Launch} {e : Env} {s : State} {m : MethodId} {args : Array Value} {below : List Frame} {meth : Method} {c : Code} {G : gG} (X : gX p s m args meth c yX6_reads cX6_reads 5 (some .boolean) RX6 G) {o : Nat} (ho : gsh G o = some 6)  {r : Int32} {σ' : Mem} : (∀ (n : Nat) (σ : Mem) (x2 : Int32) (x3 : Int32), fX6_reads_16 o n σ x2 x3 = some (r, σ') → ∀ (H : Heap) (locs : List Loc) (ls : Array Slot), gH G σ H → va_S (gAA G) s.heap H locs → lv_has ls 5 [(0, .ref (gad G o 0)), (2, .int x2), (3, .int x3)] → WB p l e 1 22 s m args below meth c G (some (.int r)) σ' H locs (F0 m 16 ls [])) := by
  intro n
  induction n with
  | zero => intro σ x2 x3 hf H locs ls hH hS hl; exact nomatch (show (none : Option (Int32 × Mem)) = some _ from hf)
  | succ n ih =>
    intro σ x2 x3 hf H locs ls hH hS hl
    rw [fX6_reads_16.eq_2] at hf
    refine lv_iload_n X.hx X.hb dX6_reads_16 rfl (lv_at hl 1 rfl) ?_
    refine lv_if_eq (tgt := 110) X.hx X.hb dX6_reads_17 (by decide) (fun c19 => ?_) (fun c19 => ?_)
    · have hf := it_p hf c19
      exact bX6_reads_110 X  ho   _ _ _  hf _ _ _ hH hS (lv_sub hl [1, 2] rfl)
    · have hf := it_n hf c19
      refine lv_iload_n X.hx X.hb dX6_reads_20 rfl (lv_at hl 2 rfl) ?_
      refine lv_bipush (v := 11) X.hx X.hb dX6_reads_21 (by decide) ?_
      refine lv_icmp_lt (tgt := 110) X.hx X.hb dX6_reads_23 (by decide) (fun c20 => ?_) (fun c20 => ?_)
      · have hf := it_p hf c20
        exact bX6_reads_110 X  ho   _ _ _  hf _ _ _ hH hS (lv_sub hl [1, 2] rfl)
      · have hf := it_n hf c20
        refine lv_aload_n X.hx X.hb dX6_reads_26 rfl (lv_at hl 0 rfl) ?_
        refine gfX6_243 X hH ho dX6_reads_27 ?_
        refine lv_iconst (v := 5) X.hx X.hb dX6_reads_30 (by decide) ?_
        refine lv_icmp_ge (tgt := 110) X.hx X.hb dX6_reads_31 (by decide) (fun c21 => ?_) (fun c21 => ?_)
        · have hf := it_p hf c21
          exact bX6_reads_110 X  ho   _ _ _  hf _ _ _ hH hS (lv_sub hl [1, 2] rfl)
        · have hf := it_n hf c21
          refine lv_iload_n X.hx X.hb dX6_reads_34 rfl (lv_at hl 2 rfl) ?_
          refine lv_bipush (v := 11) X.hx X.hb dX6_reads_35 (by decide) ?_
          refine lv_irem X.hx X.hb dX6_reads_37 (by decide) ?_
          refine lv_bipush (v := 10) X.hx X.hb dX6_reads_38 (by decide) ?_
          refine lv_icmp_ge (tgt := 47) X.hx X.hb dX6_reads_40 (by decide) (fun c22 => ?_) (fun c22 => ?_)
          · have hf := it_p hf c22
            refine lv_iconst (v := 0) X.hx X.hb dX6_reads_47 (by decide) ?_
            refine lv_istore_n (lv' := [(2, .int (0 : Int32)), (0, .ref (gad G o 0)), (3, .int x3)]) X.hx X.hb dX6_reads_48 rfl hl (by decide) rfl (fun ls hl => ?_)
            refine lv_aload_n X.hx X.hb dX6_reads_49 rfl (lv_at hl 1 rfl) ?_
            refine gfX6_243 X hH ho dX6_reads_50 ?_
            refine lv_istore (lv' := [(4, .int (mI σ o 37)), (2, .int (0 : Int32)), (0, .ref (gad G o 0)), (3, .int x3)]) X.hx X.hb dX6_reads_53 hl (by decide) rfl (fun ls hl => ?_)
            exact bX6_reads_55 X  ho ih _ _ _ _ _  hf _ _ _ hH hS (lv_sub hl [2, 1, 3, 0] rfl)
          · have hf := it_n hf c22
            refine lv_iconst (v := 1) X.hx X.hb dX6_reads_43 (by decide) ?_
            refine lv_goto (tgt := 48) X.hx X.hb dX6_reads_44 (by decide) ?_
            refine lv_istore_n (lv' := [(2, .int (1 : Int32)), (0, .ref (gad G o 0)), (3, .int x3)]) X.hx X.hb dX6_reads_48 rfl hl (by decide) rfl (fun ls hl => ?_)
            refine lv_aload_n X.hx X.hb dX6_reads_49 rfl (lv_at hl 1 rfl) ?_
            refine gfX6_243 X hH ho dX6_reads_50 ?_
            refine lv_istore (lv' := [(4, .int (mI σ o 37)), (2, .int (1 : Int32)), (0, .ref (gad G o 0)), (3, .int x3)]) X.hx X.hb dX6_reads_53 hl (by decide) rfl (fun ls hl => ?_)
            exact bX6_reads_55 X  ho ih _ _ _ _ _  hf _ _ _ hH hS (lv_sub hl [2, 1, 3, 0] rfl)
set_option maxRecDepth 20000 in
set_option maxHeartbeats 4000000 in
theorem kX6_reads (l : Launch) {G : gG} {σ : Mem} {r : Int32} {σ' : Mem} {o : Nat} {x1 : Int32} (ho : gsh G o = some 6)  (hf : fX6_reads σ o x1 = some (r, σ')) : CM l yX6_reads cX6_reads 5 (some .boolean) 1 22 G σ [.ref (gad G o 0), .int x1] (some (.int r)) σ' := by
  refine CM.of (by decide) (Nat.le_of_ble_eq_true rfl) (fun p e s m below meth c ls X hH hl => ?_)
  have X : gX p s m _ meth c yX6_reads cX6_reads 5 (some .boolean) RX6 G := X
  have hS : va_S (gAA G) s.heap s.heap [] := va_S.rf
  have hl : lv_has ls 5 [(0, .ref (gad G o 0)), (1, .int x1)] := hl
  rw [fX6_reads.eq_1] at hf
  refine lv_aload_n X.hx X.hb dX6_reads_0 rfl (lv_at hl 0 rfl) ?_
  refine lv_iconst (v := 0) X.hx X.hb dX6_reads_1 (by decide) ?_
  refine pfX6_243 X hH hS ho  dX6_reads_2 (fun H locs hH hS => ?_)
  obtain ⟨σ23, he, hf⟩ := stp_e hf
  rw [← he] at hH
  clear he
  refine lv_iload_n X.hx X.hb dX6_reads_5 rfl (lv_at hl 1 rfl) ?_
  refine lv_bipush (v := 11) X.hx X.hb dX6_reads_6 (by decide) ?_
  refine lv_ldc X.hx X.hb X.hown (X.w kcX6_246) dX6_reads_8 ?_
  obtain ⟨r24, hr, hf⟩ := bd_e hf
  refine g_callSI (As := [.int x1, .int (11 : Int32), .int (1771560 : Int32)]) (rest := []) X (kX6_in l  hr) ⟨cdX6_in, mlX6_85, stX6_in, iniX6⟩ hsX6_in ⟨Nat.le_of_ble_eq_true rfl, Nat.le_of_ble_eq_true rfl⟩ hH hS hl rfl rfl (Nat.le_of_ble_eq_true rfl) ⟨Nat.le_refl 0, Nat.le_refl 0⟩ dX6_reads_10 (fun H locs hH hS => ?_)
  refine lv_istore_n (lv' := [(2, .int r24), (0, .ref (gad G o 0)), (1, .int x1)]) X.hx X.hb dX6_reads_13 rfl hl (by decide) rfl (fun ls hl => ?_)
  refine lv_iload_n X.hx X.hb dX6_reads_14 rfl (lv_at hl 2 rfl) ?_
  refine lv_istore_n (lv' := [(3, .int x1), (2, .int r24), (0, .ref (gad G o 0)), (1, .int x1)]) X.hx X.hb dX6_reads_15 rfl hl (by decide) rfl (fun ls hl => ?_)
  exact bX6_reads_16 X  ho  _ _ _ _  hf _ _ _ hH hS (lv_sub hl [2, 1, 0] rfl)
set_option maxRecDepth 20000 in
set_option maxHeartbeats 4000000 in
theorem bX6_isLetter_22 {p : Program} {l : Launch} {e : Env} {s : State} {m : MethodId} {args : Array Value} {below : List Frame} {meth : Method} {c : Code} {G : gG} (X : gX p s m args meth c yX6_isLetter cX6_isLetter 4 (some .boolean) RX6 G) {o : Nat} (ho : gsh G o = some 6)  {σ : Mem} {r : Int32} : (∀ (n : Nat) (a1 : Nat) (b1 : Nat) (n1 : Nat) (x2 : Int32) (x3 : Int32), gvA G a1 b1 4 n1 → fX6_isLetter_22 σ o n a1 b1 n1 x2 x3 = some r → ∀ (H : Heap) (locs : List Loc) (ls : Array Slot), gH G σ H → va_S (gAA G) s.heap H locs → lv_has ls 4 [(0, .ref (gad G o 0)), (1, .ref (gad G a1 (b1 + 1))), (2, .int x2), (3, .int x3)] → WB p l e 0 0 s m args below meth c G (some (.int r)) σ H locs (F0 m 22 ls [])) := by
  intro n
  induction n with
  | zero => intro a1 b1 n1 x2 x3 ha1 hf H locs ls hH hS hl; exact nomatch (show (none : Option Int32) = some _ from hf)
  | succ n ih =>
    intro a1 b1 n1 x2 x3 ha1 hf H locs ls hH hS hl
    rw [fX6_isLetter_22.eq_2] at hf
    refine lv_iload_n X.hx X.hb dX6_isLetter_22 rfl (lv_at hl 3 rfl) ?_
    refine lv_aload_n X.hx X.hb dX6_isLetter_23 rfl (lv_at hl 0 rfl) ?_
    refine gfX6_243 X hH ho dX6_isLetter_24 ?_
    refine lv_icmp_ge (tgt := 61) X.hx X.hb dX6_isLetter_27 (by decide) (fun c5 => ?_) (fun c5 => ?_)
    · have hf := it_p hf c5
      refine lv_iload_n X.hx X.hb dX6_isLetter_61 rfl (lv_at hl 2 rfl) ?_
      obtain ⟨hg, hf⟩ := gd_e hf
      exact g_zret X hH hS rfl (so1 hf) (zb_e hg) dX6_isLetter_62
    · have hf := it_n hf c5
      refine lv_iload_n X.hx X.hb dX6_isLetter_30 rfl (lv_at hl 2 rfl) ?_
      refine lv_if_eq (tgt := 53) X.hx X.hb dX6_isLetter_31 (by decide) (fun c6 => ?_) (fun c6 => ?_)
      · have hf := it_p hf c6
        refine lv_iconst (v := 0) X.hx X.hb dX6_isLetter_53 (by decide) ?_
        refine lv_istore_n (lv' := [(2, .int (0 : Int32)), (0, .ref (gad G o 0)), (1, .ref (gad G a1 (b1 + 1))), (3, .int x3)]) X.hx X.hb dX6_isLetter_54 rfl hl (by decide) rfl (fun ls hl => ?_)
        refine lv_iinc (v := x3 + 1) (lv' := [(3, .int (x3 + 1)), (2, .int (0 : Int32)), (0, .ref (gad G o 0)), (1, .ref (gad G a1 (b1 + 1)))]) X.hx X.hb dX6_isLetter_55 hl (k := 3) rfl rfl (by decide) rfl (fun ls hl => ?_)
        refine lv_goto (tgt := 22) X.hx X.hb dX6_isLetter_58 (by decide) ?_
        exact ih _ _ _ _ _ ha1 hf _ _ _ hH hS (lv_sub hl [2, 3, 1, 0] rfl)
      · have hf := it_n hf c6
        refine lv_aload_n X.hx X.hb dX6_isLetter_34 rfl (lv_at hl 1 rfl) ?_
        refine lv_iload_n X.hx X.hb dX6_isLetter_35 rfl (lv_at hl 3 rfl) ?_
        obtain ⟨hg, hf⟩ := gd_e hf
        refine g_iald X hH ha1 hg dX6_isLetter_36 ?_
        refine lv_aload_n X.hx X.hb dX6_isLetter_37 rfl (lv_at hl 0 rfl) ?_
        refine gfX6_26 X hH ho dX6_isLetter_38 ?_
        refine lv_bipush (v := 21) X.hx X.hb dX6_isLetter_41 (by decide) ?_
        refine lv_iload_n X.hx X.hb dX6_isLetter_43 rfl (lv_at hl 3 rfl) ?_
        refine lv_iadd X.hx X.hb dX6_isLetter_44 ?_
        obtain ⟨hg, hf⟩ := gd_e hf
        refine g_iald X hH ⟨_, ho, rfl⟩ hg dX6_isLetter_45 ?_
        refine lv_icmp_ne (tgt := 53) X.hx X.hb dX6_isLetter_46 (by decide) (fun c7 => ?_) (fun c7 => ?_)
        · have hf := it_n hf c7
          refine lv_iconst (v := 0) X.hx X.hb dX6_isLetter_53 (by decide) ?_
          refine lv_istore_n (lv' := [(2, .int (0 : Int32)), (0, .ref (gad G o 0)), (1, .ref (gad G a1 (b1 + 1))), (3, .int x3)]) X.hx X.hb dX6_isLetter_54 rfl hl (by decide) rfl (fun ls hl => ?_)
          refine lv_iinc (v := x3 + 1) (lv' := [(3, .int (x3 + 1)), (2, .int (0 : Int32)), (0, .ref (gad G o 0)), (1, .ref (gad G a1 (b1 + 1)))]) X.hx X.hb dX6_isLetter_55 hl (k := 3) rfl rfl (by decide) rfl (fun ls hl => ?_)
          refine lv_goto (tgt := 22) X.hx X.hb dX6_isLetter_58 (by decide) ?_
          exact ih _ _ _ _ _ ha1 hf _ _ _ hH hS (lv_sub hl [2, 3, 1, 0] rfl)
        · have hf := it_p hf c7
          refine lv_iconst (v := 1) X.hx X.hb dX6_isLetter_49 (by decide) ?_
          refine lv_goto (tgt := 54) X.hx X.hb dX6_isLetter_50 (by decide) ?_
          refine lv_istore_n (lv' := [(2, .int (1 : Int32)), (0, .ref (gad G o 0)), (1, .ref (gad G a1 (b1 + 1))), (3, .int x3)]) X.hx X.hb dX6_isLetter_54 rfl hl (by decide) rfl (fun ls hl => ?_)
          refine lv_iinc (v := x3 + 1) (lv' := [(3, .int (x3 + 1)), (2, .int (1 : Int32)), (0, .ref (gad G o 0)), (1, .ref (gad G a1 (b1 + 1)))]) X.hx X.hb dX6_isLetter_55 hl (k := 3) rfl rfl (by decide) rfl (fun ls hl => ?_)
          refine lv_goto (tgt := 22) X.hx X.hb dX6_isLetter_58 (by decide) ?_
          exact ih _ _ _ _ _ ha1 hf _ _ _ hH hS (lv_sub hl [2, 3, 1, 0] rfl)
set_option maxRecDepth 20000 in
set_option maxHeartbeats 4000000 in
theorem kX6_isLetter (l : Launch) {G : gG} {σ : Mem} {r : Int32} {o : Nat} {a1 b1 n1 : Nat} (ho : gsh G o = some 6) (ha1 : gvA G a1 b1 4 n1) (hf : fX6_isLetter σ o a1 b1 n1 = some r) : CM l yX6_isLetter cX6_isLetter 4 (some .boolean) 0 0 G σ [.ref (gad G o 0), .ref (gad G a1 (b1 + 1))] (some (.int r)) σ := by
  refine CM.of (by decide) (Nat.le_of_ble_eq_true rfl) (fun p e s m below meth c ls X hH hl => ?_)
  have X : gX p s m _ meth c yX6_isLetter cX6_isLetter 4 (some .boolean) RX6 G := X
  have hS : va_S (gAA G) s.heap s.heap [] := va_S.rf
  have hl : lv_has ls 4 [(0, .ref (gad G o 0)), (1, .ref (gad G a1 (b1 + 1)))] := hl
  rw [fX6_isLetter.eq_1] at hf
  refine lv_aload_n X.hx X.hb dX6_isLetter_0 rfl (lv_at hl 0 rfl) ?_
  refine gfX6_243 X hH ho dX6_isLetter_1 ?_
  refine lv_aload_n X.hx X.hb dX6_isLetter_4 rfl (lv_at hl 0 rfl) ?_
  refine gfX6_26 X hH ho dX6_isLetter_5 ?_
  refine lv_bipush (v := 20) X.hx X.hb dX6_isLetter_8 (by decide) ?_
  obtain ⟨hg, hf⟩ := gd_e hf
  refine g_iald X hH ⟨_, ho, rfl⟩ hg dX6_isLetter_10 ?_
  refine lv_icmp_ne (tgt := 18) X.hx X.hb dX6_isLetter_11 (by decide) (fun c8 => ?_) (fun c8 => ?_)
  · have hf := it_n hf c8
    refine lv_iconst (v := 0) X.hx X.hb dX6_isLetter_18 (by decide) ?_
    refine lv_istore_n (lv' := [(2, .int (0 : Int32)), (0, .ref (gad G o 0)), (1, .ref (gad G a1 (b1 + 1)))]) X.hx X.hb dX6_isLetter_19 rfl hl (by decide) rfl (fun ls hl => ?_)
    refine lv_iconst (v := 0) X.hx X.hb dX6_isLetter_20 (by decide) ?_
    refine lv_istore_n (lv' := [(3, .int (0 : Int32)), (2, .int (0 : Int32)), (0, .ref (gad G o 0)), (1, .ref (gad G a1 (b1 + 1)))]) X.hx X.hb dX6_isLetter_21 rfl hl (by decide) rfl (fun ls hl => ?_)
    exact bX6_isLetter_22 X  ho  _ _ _ _ _ _ ha1 hf _ _ _ hH hS (lv_sub hl [2, 3, 1, 0] rfl)
  · have hf := it_p hf c8
    refine lv_iconst (v := 1) X.hx X.hb dX6_isLetter_14 (by decide) ?_
    refine lv_goto (tgt := 19) X.hx X.hb dX6_isLetter_15 (by decide) ?_
    refine lv_istore_n (lv' := [(2, .int (1 : Int32)), (0, .ref (gad G o 0)), (1, .ref (gad G a1 (b1 + 1)))]) X.hx X.hb dX6_isLetter_19 rfl hl (by decide) rfl (fun ls hl => ?_)
    refine lv_iconst (v := 0) X.hx X.hb dX6_isLetter_20 (by decide) ?_
    refine lv_istore_n (lv' := [(3, .int (0 : Int32)), (2, .int (1 : Int32)), (0, .ref (gad G o 0)), (1, .ref (gad G a1 (b1 + 1)))]) X.hx X.hb dX6_isLetter_21 rfl hl (by decide) rfl (fun ls hl => ?_)
    exact bX6_isLetter_22 X  ho  _ _ _ _ _ _ ha1 hf _ _ _ hH hS (lv_sub hl [2, 3, 1, 0] rfl)
set_option maxRecDepth 20000 in
set_option maxHeartbeats 4000000 in
theorem bX6_begins_2 {p : Program} {l : Launch} {e : Env} {s : State} {m : MethodId} {args : Array Value} {below : List Frame} {meth : Method} {c : Code} {G : gG} (X : gX p s m args meth c yX6_begins cX6_begins 2 none RX6 G) {o : Nat} (ho : gsh G o = some 6)  {σ' : Mem} : (∀ (n : Nat) (σ : Mem) (x1 : Int32), fX6_begins_2 o n σ x1 = some σ' → ∀ (H : Heap) (locs : List Loc) (ls : Array Slot), gH G σ H → va_S (gAA G) s.heap H locs → lv_has ls 2 [(0, .ref (gad G o 0)), (1, .int x1)] → WB p l e 0 0 s m args below meth c G none σ' H locs (F0 m 2 ls [])) := by
  intro n
  induction n with
  | zero => intro σ x1 hf H locs ls hH hS hl; exact nomatch (show (none : Option Mem) = some _ from hf)
  | succ n ih =>
    intro σ x1 hf H locs ls hH hS hl
    rw [fX6_begins_2.eq_2] at hf
    refine lv_iload_n X.hx X.hb dX6_begins_2 rfl (lv_at hl 1 rfl) ?_
    refine lv_iconst (v := 5) X.hx X.hb dX6_begins_3 (by decide) ?_
    refine lv_icmp_ge (tgt := 25) X.hx X.hb dX6_begins_4 (by decide) (fun c3 => ?_) (fun c3 => ?_)
    · have hf := it_p hf c3
      have e := so1 hf
      rw [e] at hH
      exact g_vret X hH hS rfl dX6_begins_25
    · have hf := it_n hf c3
      refine lv_aload_n X.hx X.hb dX6_begins_7 rfl (lv_at hl 0 rfl) ?_
      refine gfX6_76 X hH ho dX6_begins_8 ?_
      refine lv_iload_n X.hx X.hb dX6_begins_11 rfl (lv_at hl 1 rfl) ?_
      refine lv_aload_n X.hx X.hb dX6_begins_12 rfl (lv_at hl 0 rfl) ?_
      refine gfX6_73 X hH ho dX6_begins_13 ?_
      refine lv_iload_n X.hx X.hb dX6_begins_16 rfl (lv_at hl 1 rfl) ?_
      obtain ⟨hg, hf⟩ := gd_e hf
      refine g_iald X hH ⟨_, ho, rfl⟩ hg dX6_begins_17 ?_
      obtain ⟨hg, hf⟩ := gd_e hf
      refine g_iast X hH hS ⟨_, ho, rfl⟩ hg dX6_begins_18 (fun H locs hH hS => ?_)
      obtain ⟨σ4, he, hf⟩ := stp_e hf
      rw [← he] at hH
      clear he
      refine lv_iinc (v := x1 + 1) (lv' := [(1, .int (x1 + 1)), (0, .ref (gad G o 0))]) X.hx X.hb dX6_begins_19 hl (k := 1) rfl rfl (by decide) rfl (fun ls hl => ?_)
      refine lv_goto (tgt := 2) X.hx X.hb dX6_begins_22 (by decide) ?_
      exact ih _ _  hf _ _ _ hH hS (lv_sub hl [1, 0] rfl)
set_option maxRecDepth 20000 in
set_option maxHeartbeats 4000000 in
theorem kX6_begins (l : Launch) {G : gG} {σ : Mem} {σ' : Mem} {o : Nat} (ho : gsh G o = some 6)  (hf : fX6_begins σ o = some σ') : CM l yX6_begins cX6_begins 2 none 0 0 G σ [.ref (gad G o 0)] none σ' := by
  refine CM.of (by decide) (Nat.le_of_ble_eq_true rfl) (fun p e s m below meth c ls X hH hl => ?_)
  have X : gX p s m _ meth c yX6_begins cX6_begins 2 none RX6 G := X
  have hS : va_S (gAA G) s.heap s.heap [] := va_S.rf
  have hl : lv_has ls 2 [(0, .ref (gad G o 0))] := hl
  rw [fX6_begins.eq_1] at hf
  refine lv_iconst (v := 0) X.hx X.hb dX6_begins_0 (by decide) ?_
  refine lv_istore_n (lv' := [(1, .int (0 : Int32)), (0, .ref (gad G o 0))]) X.hx X.hb dX6_begins_1 rfl hl (by decide) rfl (fun ls hl => ?_)
  exact bX6_begins_2 X  ho  _ _ _  hf _ _ _ hH hS (lv_sub hl [1, 0] rfl)
set_option maxRecDepth 20000 in
set_option maxHeartbeats 4000000 in
theorem bX6_smokesOn_2 {p : Program} {l : Launch} {e : Env} {s : State} {m : MethodId} {args : Array Value} {below : List Frame} {meth : Method} {c : Code} {G : gG} (X : gX p s m args meth c yX6_smokesOn cX6_smokesOn 3 none RX6 G) {o : Nat} (ho : gsh G o = some 6)  {σ' : Mem} : (∀ (n : Nat) (σ : Mem) (x1 : Int32) (x2 : Int32), fX6_smokesOn_2 o n σ x1 x2 = some σ' → ∀ (H : Heap) (locs : List Loc) (ls : Array Slot), gH G σ H → va_S (gAA G) s.heap H locs → lv_has ls 3 [(0, .ref (gad G o 0)), (1, .int x1), (2, .int x2)] → WB p l e 2 43 s m args below meth c G none σ' H locs (F0 m 2 ls [])) := by
  intro n
  induction n with
  | zero => intro σ x1 x2 hf H locs ls hH hS hl; exact nomatch (show (none : Option Mem) = some _ from hf)
  | succ n ih =>
    intro σ x1 x2 hf H locs ls hH hS hl
    rw [fX6_smokesOn_2.eq_2] at hf
    refine lv_iload_n X.hx X.hb dX6_smokesOn_2 rfl (lv_at hl 2 rfl) ?_
    refine lv_aload_n X.hx X.hb dX6_smokesOn_3 rfl (lv_at hl 0 rfl) ?_
    refine gfX6_243 X hH ho dX6_smokesOn_4 ?_
    refine lv_icmp_ge (tgt := 33) X.hx X.hb dX6_smokesOn_7 (by decide) (fun c4 => ?_) (fun c4 => ?_)
    · have hf := it_p hf c4
      have e := so1 hf
      rw [e] at hH
      exact g_vret X hH hS rfl dX6_smokesOn_33
    · have hf := it_n hf c4
      refine lv_aload_n X.hx X.hb dX6_smokesOn_10 rfl (lv_at hl 0 rfl) ?_
      refine gfX6_76 X hH ho dX6_smokesOn_11 ?_
      refine lv_iload_n X.hx X.hb dX6_smokesOn_14 rfl (lv_at hl 2 rfl) ?_
      refine lv_aload_n X.hx X.hb dX6_smokesOn_15 rfl (lv_at hl 0 rfl) ?_
      refine lv_iload_n X.hx X.hb dX6_smokesOn_16 rfl (lv_at hl 1 rfl) ?_
      refine lv_aload_n X.hx X.hb dX6_smokesOn_17 rfl (lv_at hl 0 rfl) ?_
      refine gfX6_76 X hH ho dX6_smokesOn_18 ?_
      refine lv_iload_n X.hx X.hb dX6_smokesOn_21 rfl (lv_at hl 2 rfl) ?_
      obtain ⟨hg, hf⟩ := gd_e hf
      refine g_iald X hH ⟨_, ho, rfl⟩ hg dX6_smokesOn_22 ?_
      obtain ⟨r5, hr, hf⟩ := bd_e hf
      refine g_callVI (As := [.int x1, .int (mA σ o 36 x2.toNatClampNeg)]) (rest := [.int x2, .ref (gad G o (36 + 1))]) X (kX6_madeOf l ho hr) (C := RX6) (T := TX6) (N := 39) (ci := 6) rfl ho ⟨cdX6_madeOf, mlX6_225, imX6_madeOf, seX6_madeOf, iniX6⟩ hvX6_madeOf ⟨Nat.le_of_ble_eq_true rfl, Nat.le_of_ble_eq_true rfl⟩ hH hS hl rfl rfl (Nat.le_of_ble_eq_true rfl) ⟨Nat.le_refl 0, Nat.le_refl 0⟩ dX6_smokesOn_23 (fun H locs hH hS => ?_)
      obtain ⟨hg, hf⟩ := gd_e hf
      refine g_iast X hH hS ⟨_, ho, rfl⟩ hg dX6_smokesOn_26 (fun H locs hH hS => ?_)
      obtain ⟨σ6, he, hf⟩ := stp_e hf
      rw [← he] at hH
      clear he
      refine lv_iinc (v := x2 + 1) (lv' := [(2, .int (x2 + 1)), (0, .ref (gad G o 0)), (1, .int x1)]) X.hx X.hb dX6_smokesOn_27 hl (k := 2) rfl rfl (by decide) rfl (fun ls hl => ?_)
      refine lv_goto (tgt := 2) X.hx X.hb dX6_smokesOn_30 (by decide) ?_
      exact ih _ _ _  hf _ _ _ hH hS (lv_sub hl [1, 2, 0] rfl)
set_option maxRecDepth 20000 in
set_option maxHeartbeats 4000000 in
theorem kX6_smokesOn (l : Launch) {G : gG} {σ : Mem} {σ' : Mem} {o : Nat} {x1 : Int32} (ho : gsh G o = some 6)  (hf : fX6_smokesOn σ o x1 = some σ') : CM l yX6_smokesOn cX6_smokesOn 3 none 2 43 G σ [.ref (gad G o 0), .int x1] none σ' := by
  refine CM.of (by decide) (Nat.le_of_ble_eq_true rfl) (fun p e s m below meth c ls X hH hl => ?_)
  have X : gX p s m _ meth c yX6_smokesOn cX6_smokesOn 3 none RX6 G := X
  have hS : va_S (gAA G) s.heap s.heap [] := va_S.rf
  have hl : lv_has ls 3 [(0, .ref (gad G o 0)), (1, .int x1)] := hl
  rw [fX6_smokesOn.eq_1] at hf
  refine lv_iconst (v := 0) X.hx X.hb dX6_smokesOn_0 (by decide) ?_
  refine lv_istore_n (lv' := [(2, .int (0 : Int32)), (0, .ref (gad G o 0)), (1, .int x1)]) X.hx X.hb dX6_smokesOn_1 rfl hl (by decide) rfl (fun ls hl => ?_)
  exact bX6_smokesOn_2 X  ho  _ _ _ _  hf _ _ _ hH hS (lv_sub hl [1, 2, 0] rfl)
set_option maxRecDepth 20000 in
set_option maxHeartbeats 4000000 in
theorem bX6_whose_14 {p : Program} {l : Launch} {e : Env} {s : State} {m : MethodId} {args : Array Value} {below : List Frame} {meth : Method} {c : Code} {G : gG} (X : gX p s m args meth c yX6_whose cX6_whose 4 (some .int) RX6 G) {o : Nat} (ho : gsh G o = some 6)  {r : Int32} {σ' : Mem} : (∀ (n : Nat) (σ : Mem) (x2 : Int32) (x3 : Int32), fX6_whose_14 o n σ x2 x3 = some (r, σ') → ∀ (H : Heap) (locs : List Loc) (ls : Array Slot), gH G σ H → va_S (gAA G) s.heap H locs → lv_has ls 4 [(0, .ref (gad G o 0)), (2, .int x2), (3, .int x3)] → WB p l e 3 65 s m args below meth c G (some (.int r)) σ' H locs (F0 m 14 ls [])) := by
  intro n
  induction n with
  | zero => intro σ x2 x3 hf H locs ls hH hS hl; exact nomatch (show (none : Option (Int32 × Mem)) = some _ from hf)
  | succ n ih =>
    intro σ x2 x3 hf H locs ls hH hS hl
    rw [fX6_whose_14.eq_2] at hf
    refine lv_iload_n X.hx X.hb dX6_whose_14 rfl (lv_at hl 2 rfl) ?_
    refine lv_aload_n X.hx X.hb dX6_whose_15 rfl (lv_at hl 0 rfl) ?_
    refine gfX6_89 X hH ho dX6_whose_16 ?_
    refine lv_icmp_ge (tgt := 58) X.hx X.hb dX6_whose_19 (by decide) (fun c9 => ?_) (fun c9 => ?_)
    · have hf := it_p hf c9
      refine lv_iload_n X.hx X.hb dX6_whose_58 rfl (lv_at hl 1 rfl) ?_
      have e := so2 hf
      rw [e.2] at hH
      exact g_iret X hH hS rfl e.1 dX6_whose_59
    · have hf := it_n hf c9
      refine lv_aload_n X.hx X.hb dX6_whose_22 rfl (lv_at hl 0 rfl) ?_
      obtain ⟨σ10, hr, hf⟩ := bd_e hf
      refine g_callVV (As := []) (rest := []) X (kX6_begins l ho hr) (C := RX6) (T := TX6) (N := 39) (ci := 6) rfl ho ⟨cdX6_begins, mlX6_250, imX6_begins, seX6_begins, iniX6⟩ hvX6_begins ⟨Nat.le_of_ble_eq_true rfl, Nat.le_of_ble_eq_true rfl⟩ hH hS hl rfl rfl (Nat.le_of_ble_eq_true rfl) ⟨Nat.le_refl 0, Nat.le_refl 0⟩ dX6_whose_23 (fun H locs hH hS => ?_)
      refine lv_aload_n X.hx X.hb dX6_whose_26 rfl (lv_at hl 0 rfl) ?_
      refine lv_iload_n X.hx X.hb dX6_whose_27 rfl (lv_at hl 2 rfl) ?_
      obtain ⟨σ11, hr, hf⟩ := bd_e hf
      refine g_callVV (As := [.int x3]) (rest := []) X (kX6_smokesOn l ho hr) (C := RX6) (T := TX6) (N := 39) (ci := 6) rfl ho ⟨cdX6_smokesOn, mlX6_253, imX6_smokesOn, seX6_smokesOn, iniX6⟩ hvX6_smokesOn ⟨Nat.le_of_ble_eq_true rfl, Nat.le_of_ble_eq_true rfl⟩ hH hS hl rfl rfl (Nat.le_of_ble_eq_true rfl) ⟨Nat.le_refl 0, Nat.le_refl 0⟩ dX6_whose_28 (fun H locs hH hS => ?_)
      refine lv_iload_n X.hx X.hb dX6_whose_31 rfl (lv_at hl 1 rfl) ?_
      refine lv_aload_n X.hx X.hb dX6_whose_32 rfl (lv_at hl 0 rfl) ?_
      refine lv_aload_n X.hx X.hb dX6_whose_33 rfl (lv_at hl 0 rfl) ?_
      refine gfX6_76 X hH ho dX6_whose_34 ?_
      obtain ⟨r12, hr, hf⟩ := bd_e hf
      refine g_callVI (As := [.ref (gad G o (36 + 1))]) (rest := [.int x2]) X (kX6_isLetter l ho ⟨_, ho, rfl⟩ hr) (C := RX6) (T := TX6) (N := 39) (ci := 6) rfl ho ⟨cdX6_isLetter, mlX6_256, imX6_isLetter, seX6_isLetter, iniX6⟩ hvX6_isLetter ⟨Nat.le_of_ble_eq_true rfl, Nat.le_of_ble_eq_true rfl⟩ hH hS hl rfl rfl (Nat.le_of_ble_eq_true rfl) ⟨Nat.le_refl 0, Nat.le_refl 0⟩ dX6_whose_37 (fun H locs hH hS => ?_)
      refine lv_if_eq (tgt := 49) X.hx X.hb dX6_whose_40 (by decide) (fun c13 => ?_) (fun c13 => ?_)
      · have hf := it_p hf c13
        refine lv_iconst (v := 0) X.hx X.hb dX6_whose_49 (by decide) ?_
        refine lv_ior X.hx X.hb dX6_whose_50 ?_
        refine lv_istore_n (lv' := [(2, .int (x2 ||| (0 : Int32))), (0, .ref (gad G o 0)), (3, .int x3)]) X.hx X.hb dX6_whose_51 rfl hl (by decide) rfl (fun ls hl => ?_)
        refine lv_iinc (v := x3 + 1) (lv' := [(3, .int (x3 + 1)), (2, .int (x2 ||| (0 : Int32))), (0, .ref (gad G o 0))]) X.hx X.hb dX6_whose_52 hl (k := 2) rfl rfl (by decide) rfl (fun ls hl => ?_)
        refine lv_goto (tgt := 14) X.hx X.hb dX6_whose_55 (by decide) ?_
        exact ih _ _ _  hf _ _ _ hH hS (lv_sub hl [2, 1, 0] rfl)
      · have hf := it_n hf c13
        refine lv_iconst (v := 1) X.hx X.hb dX6_whose_43 (by decide) ?_
        refine lv_iload_n X.hx X.hb dX6_whose_44 rfl (lv_at hl 2 rfl) ?_
        refine lv_ishl X.hx X.hb dX6_whose_45 ?_
        refine lv_goto (tgt := 50) X.hx X.hb dX6_whose_46 (by decide) ?_
        refine lv_ior X.hx X.hb dX6_whose_50 ?_
        refine lv_istore_n (lv' := [(2, .int (x2 ||| ((1 : Int32) <<< (x3 &&& 31)))), (0, .ref (gad G o 0)), (3, .int x3)]) X.hx X.hb dX6_whose_51 rfl hl (by decide) rfl (fun ls hl => ?_)
        refine lv_iinc (v := x3 + 1) (lv' := [(3, .int (x3 + 1)), (2, .int (x2 ||| ((1 : Int32) <<< (x3 &&& 31)))), (0, .ref (gad G o 0))]) X.hx X.hb dX6_whose_52 hl (k := 2) rfl rfl (by decide) rfl (fun ls hl => ?_)
        refine lv_goto (tgt := 14) X.hx X.hb dX6_whose_55 (by decide) ?_
        exact ih _ _ _  hf _ _ _ hH hS (lv_sub hl [2, 1, 0] rfl)
set_option maxRecDepth 20000 in
set_option maxHeartbeats 4000000 in
theorem kX6_whose (l : Launch) {G : gG} {σ : Mem} {r : Int32} {σ' : Mem} {o : Nat} {x1 : Int32} (ho : gsh G o = some 6)  (hf : fX6_whose σ o x1 = some (r, σ')) : CM l yX6_whose cX6_whose 4 (some .int) 3 65 G σ [.ref (gad G o 0), .int x1] (some (.int r)) σ' := by
  refine CM.of (by decide) (Nat.le_of_ble_eq_true rfl) (fun p e s m below meth c ls X hH hl => ?_)
  have X : gX p s m _ meth c yX6_whose cX6_whose 4 (some .int) RX6 G := X
  have hS : va_S (gAA G) s.heap s.heap [] := va_S.rf
  have hl : lv_has ls 4 [(0, .ref (gad G o 0)), (1, .int x1)] := hl
  rw [fX6_whose.eq_1] at hf
  refine lv_aload_n X.hx X.hb dX6_whose_0 rfl (lv_at hl 0 rfl) ?_
  refine lv_iload_n X.hx X.hb dX6_whose_1 rfl (lv_at hl 1 rfl) ?_
  obtain ⟨r14, σ15, hr, hf⟩ := bd2_e hf
  refine g_callVI (As := [.int x1]) (rest := []) X (kX6_reads l ho hr) (C := RX6) (T := TX6) (N := 39) (ci := 6) rfl ho ⟨cdX6_reads, mlX6_247, imX6_reads, seX6_reads, iniX6⟩ hvX6_reads ⟨Nat.le_of_ble_eq_true rfl, Nat.le_of_ble_eq_true rfl⟩ hH hS hl rfl rfl (Nat.le_of_ble_eq_true rfl) ⟨Nat.le_refl 0, Nat.le_refl 0⟩ dX6_whose_2 (fun H locs hH hS => ?_)
  refine lv_if_ne (tgt := 10) X.hx X.hb dX6_whose_5 (by decide) (fun c16 => ?_) (fun c16 => ?_)
  · have hf := it_n hf c16
    refine lv_iconst (v := 0) X.hx X.hb dX6_whose_10 (by decide) ?_
    refine lv_istore_n (lv' := [(2, .int (0 : Int32)), (0, .ref (gad G o 0)), (1, .int x1)]) X.hx X.hb dX6_whose_11 rfl hl (by decide) rfl (fun ls hl => ?_)
    refine lv_iconst (v := 0) X.hx X.hb dX6_whose_12 (by decide) ?_
    refine lv_istore_n (lv' := [(3, .int (0 : Int32)), (2, .int (0 : Int32)), (0, .ref (gad G o 0)), (1, .int x1)]) X.hx X.hb dX6_whose_13 rfl hl (by decide) rfl (fun ls hl => ?_)
    exact bX6_whose_14 X  ho  _ _ _ _  hf _ _ _ hH hS (lv_sub hl [2, 1, 0] rfl)
  · have hf := it_p hf c16
    refine lv_iconst (v := -1) X.hx X.hb dX6_whose_8 (by decide) ?_
    have e := so2 hf
    rw [e.2] at hH
    exact g_iret X hH hS rfl e.1 dX6_whose_9
set_option maxRecDepth 20000 in
set_option maxHeartbeats 4000000 in
theorem bX6_makes_62 {p : Program} {l : Launch} {e : Env} {s : State} {m : MethodId} {args : Array Value} {below : List Frame} {meth : Method} {c : Code} {G : gG} (X : gX p s m args meth c yX6_makes cX6_makes 6 (some .boolean) RX6 G) {o : Nat} (ho : gsh G o = some 6)  {r : Int32} {σ' : Mem} : (∀ (n : Nat) (σ : Mem) (x1 : Int32) (x4 : Int32) (x5 : Int32), fX6_makes_62 o n σ x1 x4 x5 = some (r, σ') → ∀ (H : Heap) (locs : List Loc) (ls : Array Slot), gH G σ H → va_S (gAA G) s.heap H locs → lv_has ls 6 [(0, .ref (gad G o 0)), (1, .int x1), (4, .int x4), (5, .int x5)] → WB p l e 3 65 s m args below meth c G (some (.int r)) σ' H locs (F0 m 62 ls [])) := by
  intro n
  induction n with
  | zero => intro σ x1 x4 x5 hf H locs ls hH hS hl; exact nomatch (show (none : Option (Int32 × Mem)) = some _ from hf)
  | succ n ih =>
    intro σ x1 x4 x5 hf H locs ls hH hS hl
    rw [fX6_makes_62.eq_2] at hf
    refine lv_iload X.hx X.hb dX6_makes_62 (lv_at hl 3 rfl) ?_
    refine lv_iload_n X.hx X.hb dX6_makes_64 rfl (lv_at hl 1 rfl) ?_
    refine lv_icmp_ge (tgt := 85) X.hx X.hb dX6_makes_65 (by decide) (fun c10 => ?_) (fun c10 => ?_)
    · have hf := it_p hf c10
      refine lv_iload X.hx X.hb dX6_makes_85 (lv_at hl 2 rfl) ?_
      obtain ⟨r11, hr, hf⟩ := bd_e hf
      refine g_callSI (As := [.int x4]) (rest := []) X (kX6_bits l  hr) ⟨cdX6_bits, mlX6_188, stX6_bits, iniX6⟩ hsX6_bits ⟨Nat.le_of_ble_eq_true rfl, Nat.le_of_ble_eq_true rfl⟩ hH hS hl rfl rfl (Nat.le_of_ble_eq_true rfl) ⟨Nat.le_refl 0, Nat.le_refl 0⟩ dX6_makes_87 (fun H locs hH hS => ?_)
      refine lv_iload_n X.hx X.hb dX6_makes_90 rfl (lv_at hl 1 rfl) ?_
      refine lv_icmp_ne (tgt := 109) X.hx X.hb dX6_makes_91 (by decide) (fun c12 => ?_) (fun c12 => ?_)
      · have hf := it_n hf c12
        refine lv_iconst (v := 0) X.hx X.hb dX6_makes_109 (by decide) ?_
        have e := so2 hf
        rw [e.2] at hH
        exact g_zret X hH hS rfl e.1 (by decide) dX6_makes_110
      · have hf := it_p hf c12
        refine lv_aload_n X.hx X.hb dX6_makes_94 rfl (lv_at hl 0 rfl) ?_
        refine lv_aload_n X.hx X.hb dX6_makes_95 rfl (lv_at hl 0 rfl) ?_
        refine gfX6_76 X hH ho dX6_makes_96 ?_
        obtain ⟨r13, hr, hf⟩ := bd_e hf
        refine g_callVI (As := [.ref (gad G o (36 + 1))]) (rest := []) X (kX6_isLetter l ho ⟨_, ho, rfl⟩ hr) (C := RX6) (T := TX6) (N := 39) (ci := 6) rfl ho ⟨cdX6_isLetter, mlX6_256, imX6_isLetter, seX6_isLetter, iniX6⟩ hvX6_isLetter ⟨Nat.le_of_ble_eq_true rfl, Nat.le_of_ble_eq_true rfl⟩ hH hS hl rfl rfl (Nat.le_of_ble_eq_true rfl) ⟨Nat.le_refl 0, Nat.le_refl 0⟩ dX6_makes_99 (fun H locs hH hS => ?_)
        refine lv_if_eq (tgt := 109) X.hx X.hb dX6_makes_102 (by decide) (fun c14 => ?_) (fun c14 => ?_)
        · have hf := it_p hf c14
          refine lv_iconst (v := 0) X.hx X.hb dX6_makes_109 (by decide) ?_
          have e := so2 hf
          rw [e.2] at hH
          exact g_zret X hH hS rfl e.1 (by decide) dX6_makes_110
        · have hf := it_n hf c14
          refine lv_iconst (v := 1) X.hx X.hb dX6_makes_105 (by decide) ?_
          refine lv_goto (tgt := 110) X.hx X.hb dX6_makes_106 (by decide) ?_
          have e := so2 hf
          rw [e.2] at hH
          exact g_zret X hH hS rfl e.1 (by decide) dX6_makes_110
    · have hf := it_n hf c10
      refine lv_aload_n X.hx X.hb dX6_makes_68 rfl (lv_at hl 0 rfl) ?_
      refine lv_aload_n X.hx X.hb dX6_makes_69 rfl (lv_at hl 0 rfl) ?_
      refine gfX6_79 X hH ho dX6_makes_70 ?_
      refine lv_iload X.hx X.hb dX6_makes_73 (lv_at hl 3 rfl) ?_
      obtain ⟨hg, hf⟩ := gd_e hf
      refine g_iald X hH ⟨_, ho, rfl⟩ hg dX6_makes_75 ?_
      obtain ⟨σ15, hr, hf⟩ := bd_e hf
      refine g_callVV (As := [.int (mA σ o 38 x5.toNatClampNeg)]) (rest := []) X (kX6_smokesOn l ho hr) (C := RX6) (T := TX6) (N := 39) (ci := 6) rfl ho ⟨cdX6_smokesOn, mlX6_253, imX6_smokesOn, seX6_smokesOn, iniX6⟩ hvX6_smokesOn ⟨Nat.le_of_ble_eq_true rfl, Nat.le_of_ble_eq_true rfl⟩ hH hS hl rfl rfl (Nat.le_of_ble_eq_true rfl) ⟨Nat.le_refl 0, Nat.le_refl 0⟩ dX6_makes_76 (fun H locs hH hS => ?_)
      refine lv_iinc (v := x5 + 1) (lv' := [(5, .int (x5 + 1)), (0, .ref (gad G o 0)), (1, .int x1), (4, .int x4)]) X.hx X.hb dX6_makes_79 hl (k := 3) rfl rfl (by decide) rfl (fun ls hl => ?_)
      refine lv_goto (tgt := 62) X.hx X.hb dX6_makes_82 (by decide) ?_
      exact ih _ _ _ _  hf _ _ _ hH hS (lv_sub hl [1, 2, 3, 0] rfl)
set_option maxRecDepth 20000 in
set_option maxHeartbeats 4000000 in
theorem bX6_makes_10 {p : Program} {l : Launch} {e : Env} {s : State} {m : MethodId} {args : Array Value} {below : List Frame} {meth : Method} {c : Code} {G : gG} (X : gX p s m args meth c yX6_makes cX6_makes 6 (some .boolean) RX6 G) {o : Nat} (ho : gsh G o = some 6)  {r : Int32} {σ' : Mem} : (∀ (n : Nat) (σ : Mem) (x1 : Int32) (x3 : Int32) (x4 : Int32) (x5 : Int32), fX6_makes_10 o n σ x1 x3 x4 x5 = some (r, σ') → ∀ (H : Heap) (locs : List Loc) (ls : Array Slot), gH G σ H → va_S (gAA G) s.heap H locs → lv_has ls 6 [(0, .ref (gad G o 0)), (1, .int x1), (3, .int x3), (4, .int x4), (5, .int x5)] → WB p l e 3 65 s m args below meth c G (some (.int r)) σ' H locs (F0 m 10 ls [])) := by
  intro n
  induction n with
  | zero => intro σ x1 x3 x4 x5 hf H locs ls hH hS hl; exact nomatch (show (none : Option (Int32 × Mem)) = some _ from hf)
  | succ n ih =>
    intro σ x1 x3 x4 x5 hf H locs ls hH hS hl
    rw [fX6_makes_10.eq_2] at hf
    refine lv_iload X.hx X.hb dX6_makes_10 (lv_at hl 4 rfl) ?_
    refine lv_if_lt (tgt := 55) X.hx X.hb dX6_makes_12 (by decide) (fun c16 => ?_) (fun c16 => ?_)
    · have hf := it_p hf c16
      refine lv_aload_n X.hx X.hb dX6_makes_55 rfl (lv_at hl 0 rfl) ?_
      obtain ⟨σ17, hr, hf⟩ := bd_e hf
      refine g_callVV (As := []) (rest := []) X (kX6_begins l ho hr) (C := RX6) (T := TX6) (N := 39) (ci := 6) rfl ho ⟨cdX6_begins, mlX6_250, imX6_begins, seX6_begins, iniX6⟩ hvX6_begins ⟨Nat.le_of_ble_eq_true rfl, Nat.le_of_ble_eq_true rfl⟩ hH hS hl rfl rfl (Nat.le_of_ble_eq_true rfl) ⟨Nat.le_refl 0, Nat.le_refl 0⟩ dX6_makes_56 (fun H locs hH hS => ?_)
      refine lv_iconst (v := 0) X.hx X.hb dX6_makes_59 (by decide) ?_
      refine lv_istore (lv' := [(5, .int (0 : Int32)), (0, .ref (gad G o 0)), (1, .int x1), (3, .int x3), (4, .int x4)]) X.hx X.hb dX6_makes_60 hl (by decide) rfl (fun ls hl => ?_)
      exact bX6_makes_62 X  ho  _ _ _ _ _  hf _ _ _ hH hS (lv_sub hl [1, 2, 4, 0] rfl)
    · have hf := it_n hf c16
      refine lv_aload_n X.hx X.hb dX6_makes_15 rfl (lv_at hl 0 rfl) ?_
      refine gfX6_79 X hH ho dX6_makes_16 ?_
      refine lv_iload X.hx X.hb dX6_makes_19 (lv_at hl 4 rfl) ?_
      refine lv_iload_n X.hx X.hb dX6_makes_21 rfl (lv_at hl 2 rfl) ?_
      refine lv_aload_n X.hx X.hb dX6_makes_22 rfl (lv_at hl 0 rfl) ?_
      refine gfX6_89 X hH ho dX6_makes_23 ?_
      obtain ⟨hg, hf⟩ := gd_e hf
      refine lv_irem X.hx X.hb dX6_makes_26 (of_decide_eq_true hg) ?_
      obtain ⟨hg, hf⟩ := gd_e hf
      refine g_iast X hH hS ⟨_, ho, rfl⟩ hg dX6_makes_27 (fun H locs hH hS => ?_)
      obtain ⟨σ18, he, hf⟩ := stp_e hf
      rw [← he] at hH
      clear he
      refine lv_iload X.hx X.hb dX6_makes_28 (lv_at hl 3 rfl) ?_
      refine lv_iconst (v := 1) X.hx X.hb dX6_makes_30 (by decide) ?_
      refine lv_aload_n X.hx X.hb dX6_makes_31 rfl (lv_at hl 0 rfl) ?_
      refine gfX6_79 X hH ho dX6_makes_32 ?_
      refine lv_iload X.hx X.hb dX6_makes_35 (lv_at hl 4 rfl) ?_
      obtain ⟨hg, hf⟩ := gd_e hf
      refine g_iald X hH ⟨_, ho, rfl⟩ hg dX6_makes_37 ?_
      refine lv_ishl X.hx X.hb dX6_makes_38 ?_
      refine lv_ior X.hx X.hb dX6_makes_39 ?_
      refine lv_istore (lv' := [(4, .int (x4 ||| ((1 : Int32) <<< ((mA σ18 o 38 x5.toNatClampNeg) &&& 31)))), (0, .ref (gad G o 0)), (1, .int x1), (3, .int x3), (5, .int x5)]) X.hx X.hb dX6_makes_40 hl (by decide) rfl (fun ls hl => ?_)
      refine lv_iload_n X.hx X.hb dX6_makes_42 rfl (lv_at hl 3 rfl) ?_
      refine lv_aload_n X.hx X.hb dX6_makes_43 rfl (lv_at hl 1 rfl) ?_
      refine gfX6_89 X hH ho dX6_makes_44 ?_
      obtain ⟨hg, hf⟩ := gd_e hf
      refine lv_idiv X.hx X.hb dX6_makes_47 (of_decide_eq_true hg) ?_
      refine lv_istore_n (lv' := [(3, .int (x3 / (mI σ18 o 5))), (4, .int (x4 ||| ((1 : Int32) <<< ((mA σ18 o 38 x5.toNatClampNeg) &&& 31)))), (0, .ref (gad G o 0)), (1, .int x1), (5, .int x5)]) X.hx X.hb dX6_makes_48 rfl hl (by decide) rfl (fun ls hl => ?_)
      refine lv_iinc (v := x5 + (-1)) (lv' := [(5, .int (x5 + (-1))), (3, .int (x3 / (mI σ18 o 5))), (4, .int (x4 ||| ((1 : Int32) <<< ((mA σ18 o 38 x5.toNatClampNeg) &&& 31)))), (0, .ref (gad G o 0)), (1, .int x1)]) X.hx X.hb dX6_makes_49 hl (k := 4) rfl rfl (by decide) rfl (fun ls hl => ?_)
      refine lv_goto (tgt := 10) X.hx X.hb dX6_makes_52 (by decide) ?_
      exact ih _ _ _ _ _  hf _ _ _ hH hS (lv_sub hl [3, 4, 1, 2, 0] rfl)
set_option maxRecDepth 20000 in
set_option maxHeartbeats 4000000 in
theorem kX6_makes (l : Launch) {G : gG} {σ : Mem} {r : Int32} {σ' : Mem} {o : Nat} {x1 : Int32} {x2 : Int32} (ho : gsh G o = some 6)  (hf : fX6_makes σ o x1 x2 = some (r, σ')) : CM l yX6_makes cX6_makes 6 (some .boolean) 3 65 G σ [.ref (gad G o 0), .int x1, .int x2] (some (.int r)) σ' := by
  refine CM.of (by decide) (Nat.le_of_ble_eq_true rfl) (fun p e s m below meth c ls X hH hl => ?_)
  have X : gX p s m _ meth c yX6_makes cX6_makes 6 (some .boolean) RX6 G := X
  have hS : va_S (gAA G) s.heap s.heap [] := va_S.rf
  have hl : lv_has ls 6 [(0, .ref (gad G o 0)), (1, .int x1), (2, .int x2)] := hl
  rw [fX6_makes.eq_1] at hf
  refine lv_iload_n X.hx X.hb dX6_makes_0 rfl (lv_at hl 2 rfl) ?_
  refine lv_istore_n (lv' := [(3, .int x2), (0, .ref (gad G o 0)), (1, .int x1), (2, .int x2)]) X.hx X.hb dX6_makes_1 rfl hl (by decide) rfl (fun ls hl => ?_)
  refine lv_iconst (v := 0) X.hx X.hb dX6_makes_2 (by decide) ?_
  refine lv_istore (lv' := [(4, .int (0 : Int32)), (3, .int x2), (0, .ref (gad G o 0)), (1, .int x1), (2, .int x2)]) X.hx X.hb dX6_makes_3 hl (by decide) rfl (fun ls hl => ?_)
  refine lv_iload_n X.hx X.hb dX6_makes_5 rfl (lv_at hl 3 rfl) ?_
  refine lv_iconst (v := 1) X.hx X.hb dX6_makes_6 (by decide) ?_
  refine lv_isub X.hx X.hb dX6_makes_7 ?_
  refine lv_istore (lv' := [(5, .int (x1 - (1 : Int32))), (4, .int (0 : Int32)), (3, .int x2), (0, .ref (gad G o 0)), (1, .int x1), (2, .int x2)]) X.hx X.hb dX6_makes_8 hl (by decide) rfl (fun ls hl => ?_)
  exact bX6_makes_10 X  ho  _ _ _ _ _ _  hf _ _ _ hH hS (lv_sub hl [3, 4, 2, 1, 0] rfl)
set_option maxRecDepth 20000 in
set_option maxHeartbeats 4000000 in
theorem bX6_chain_28 {p : Program} {l : Launch} {e : Env} {s : State} {m : MethodId} {args : Array Value} {below : List Frame} {meth : Method} {c : Code} {G : gG} (X : gX p s m args meth c yX6_chain cX6_chain 5 (some .int) RX6 G) {o : Nat} (ho : gsh G o = some 6)  {r : Int32} {σ' : Mem} {k17 : Mem → Int32 → Int32 → Option (Int32 × Mem)} (hk17 : (∀ (σ : Mem) (x2 : Int32) (x3 : Int32), k17 σ x2 x3 = some (r, σ') → ∀ (H : Heap) (locs : List Loc) (ls : Array Slot), gH G σ H → va_S (gAA G) s.heap H locs → lv_has ls 5 [(0, .ref (gad G o 0)), (2, .int x2), (3, .int x3)] → WB p l e 4 90 s m args below meth c G (some (.int r)) σ' H locs (F0 m 17 ls []))) : (∀ (n : Nat) (σ : Mem) (x2 : Int32) (x3 : Int32) (x4 : Int32), fX6_chain_28 k17 o n σ x2 x3 x4 = some (r, σ') → ∀ (H : Heap) (locs : List Loc) (ls : Array Slot), gH G σ H → va_S (gAA G) s.heap H locs → lv_has ls 5 [(0, .ref (gad G o 0)), (2, .int x2), (3, .int x3), (4, .int x4)] → WB p l e 4 90 s m args below meth c G (some (.int r)) σ' H locs (F0 m 28 ls [])) := by
  intro n
  induction n with
  | zero => intro σ x2 x3 x4 hf H locs ls hH hS hl; exact nomatch (show (none : Option (Int32 × Mem)) = some _ from hf)
  | succ n ih =>
    intro σ x2 x3 x4 hf H locs ls hH hS hl
    rw [fX6_chain_28.eq_2] at hf
    refine lv_iload X.hx X.hb dX6_chain_28 (lv_at hl 3 rfl) ?_
    refine lv_aload_n X.hx X.hb dX6_chain_30 rfl (lv_at hl 0 rfl) ?_
    refine lv_aload_n X.hx X.hb dX6_chain_31 rfl (lv_at hl 0 rfl) ?_
    refine gfX6_89 X hH ho dX6_chain_32 ?_
    refine lv_iload_n X.hx X.hb dX6_chain_35 rfl (lv_at hl 2 rfl) ?_
    obtain ⟨r13, hr, hf⟩ := bd_e hf
    refine g_callVI (As := [.int (mI σ o 5), .int x3]) (rest := [.int x4]) X (kX6_power l ho hr) (C := RX6) (T := TX6) (N := 39) (ci := 6) rfl ho ⟨cdX6_power, mlX6_195, imX6_power, seX6_power, iniX6⟩ hvX6_power ⟨Nat.le_of_ble_eq_true rfl, Nat.le_of_ble_eq_true rfl⟩ hH hS hl rfl rfl (Nat.le_of_ble_eq_true rfl) ⟨Nat.le_refl 0, Nat.le_refl 0⟩ dX6_chain_36 (fun H locs hH hS => ?_)
    refine lv_icmp_ge (tgt := 83) X.hx X.hb dX6_chain_39 (by decide) (fun c14 => ?_) (fun c14 => ?_)
    · have hf := it_p hf c14
      refine lv_iinc (v := x3 + 1) (lv' := [(3, .int (x3 + 1)), (0, .ref (gad G o 0)), (2, .int x2), (4, .int x4)]) X.hx X.hb dX6_chain_83 hl (k := 2) rfl rfl (by decide) rfl (fun ls hl => ?_)
      refine lv_goto (tgt := 17) X.hx X.hb dX6_chain_86 (by decide) ?_
      exact hk17 _ _ _  hf _ _ _ hH hS (lv_sub hl [1, 2, 0] rfl)
    · have hf := it_n hf c14
      refine lv_aload_n X.hx X.hb dX6_chain_42 rfl (lv_at hl 0 rfl) ?_
      refine lv_iload_n X.hx X.hb dX6_chain_43 rfl (lv_at hl 2 rfl) ?_
      refine lv_iload X.hx X.hb dX6_chain_44 (lv_at hl 3 rfl) ?_
      obtain ⟨r15, σ16, hr, hf⟩ := bd2_e hf
      refine g_callVI (As := [.int x3, .int x4]) (rest := []) X (kX6_makes l ho hr) (C := RX6) (T := TX6) (N := 39) (ci := 6) rfl ho ⟨cdX6_makes, mlX6_260, imX6_makes, seX6_makes, iniX6⟩ hvX6_makes ⟨Nat.le_of_ble_eq_true rfl, Nat.le_of_ble_eq_true rfl⟩ hH hS hl rfl rfl (Nat.le_of_ble_eq_true rfl) ⟨Nat.le_refl 0, Nat.le_refl 0⟩ dX6_chain_46 (fun H locs hH hS => ?_)
      refine lv_if_eq (tgt := 77) X.hx X.hb dX6_chain_49 (by decide) (fun c17 => ?_) (fun c17 => ?_)
      · have hf := it_p hf c17
        refine lv_iinc (v := x4 + 1) (lv' := [(4, .int (x4 + 1)), (0, .ref (gad G o 0)), (2, .int x2), (3, .int x3)]) X.hx X.hb dX6_chain_77 hl (k := 3) rfl rfl (by decide) rfl (fun ls hl => ?_)
        refine lv_goto (tgt := 28) X.hx X.hb dX6_chain_80 (by decide) ?_
        exact ih _ _ _ _  hf _ _ _ hH hS (lv_sub hl [1, 2, 3, 0] rfl)
      · have hf := it_n hf c17
        refine lv_iload_n X.hx X.hb dX6_chain_52 rfl (lv_at hl 1 rfl) ?_
        refine lv_if_ge (tgt := 60) X.hx X.hb dX6_chain_53 (by decide) (fun c18 => ?_) (fun c18 => ?_)
        · have hf := it_p hf c18
          refine lv_iload_n X.hx X.hb dX6_chain_60 rfl (lv_at hl 1 rfl) ?_
          refine lv_iload_n X.hx X.hb dX6_chain_61 rfl (lv_at hl 2 rfl) ?_
          refine lv_icmp_ge (tgt := 74) X.hx X.hb dX6_chain_62 (by decide) (fun c19 => ?_) (fun c19 => ?_)
          · have hf := it_p hf c19
            refine lv_bipush (v := -5) X.hx X.hb dX6_chain_74 (by decide) ?_
            have e := so2 hf
            rw [e.2] at hH
            exact g_iret X hH hS rfl e.1 dX6_chain_76
          · have hf := it_n hf c19
            refine lv_aload_n X.hx X.hb dX6_chain_65 rfl (lv_at hl 0 rfl) ?_
            refine gfX6_79 X hH ho dX6_chain_66 ?_
            refine lv_iload_n X.hx X.hb dX6_chain_69 rfl (lv_at hl 1 rfl) ?_
            obtain ⟨hg, hf⟩ := gd_e hf
            refine g_iald X hH ⟨_, ho, rfl⟩ hg dX6_chain_70 ?_
            refine lv_goto (tgt := 76) X.hx X.hb dX6_chain_71 (by decide) ?_
            have e := so2 hf
            rw [e.2] at hH
            exact g_iret X hH hS rfl e.1 dX6_chain_76
        · have hf := it_n hf c18
          refine lv_iload_n X.hx X.hb dX6_chain_56 rfl (lv_at hl 2 rfl) ?_
          refine lv_goto (tgt := 76) X.hx X.hb dX6_chain_57 (by decide) ?_
          have e := so2 hf
          rw [e.2] at hH
          exact g_iret X hH hS rfl e.1 dX6_chain_76
set_option maxRecDepth 20000 in
set_option maxHeartbeats 4000000 in
theorem bX6_chain_17 {p : Program} {l : Launch} {e : Env} {s : State} {m : MethodId} {args : Array Value} {below : List Frame} {meth : Method} {c : Code} {G : gG} (X : gX p s m args meth c yX6_chain cX6_chain 5 (some .int) RX6 G) {o : Nat} (ho : gsh G o = some 6)  {r : Int32} {σ' : Mem} : (∀ (n : Nat) (σ : Mem) (x2 : Int32) (x3 : Int32), fX6_chain_17 o n σ x2 x3 = some (r, σ') → ∀ (H : Heap) (locs : List Loc) (ls : Array Slot), gH G σ H → va_S (gAA G) s.heap H locs → lv_has ls 5 [(0, .ref (gad G o 0)), (2, .int x2), (3, .int x3)] → WB p l e 4 90 s m args below meth c G (some (.int r)) σ' H locs (F0 m 17 ls [])) := by
  intro n
  induction n with
  | zero => intro σ x2 x3 hf H locs ls hH hS hl; exact nomatch (show (none : Option (Int32 × Mem)) = some _ from hf)
  | succ n ih =>
    intro σ x2 x3 hf H locs ls hH hS hl
    rw [fX6_chain_17.eq_2] at hf
    refine lv_iload_n X.hx X.hb dX6_chain_17 rfl (lv_at hl 2 rfl) ?_
    refine lv_aload_n X.hx X.hb dX6_chain_18 rfl (lv_at hl 0 rfl) ?_
    refine gfX6_89 X hH ho dX6_chain_19 ?_
    refine lv_icmp_gt (tgt := 89) X.hx X.hb dX6_chain_22 (by decide) (fun c20 => ?_) (fun c20 => ?_)
    · have hf := it_p hf c20
      refine lv_bipush (v := -9) X.hx X.hb dX6_chain_89 (by decide) ?_
      have e := so2 hf
      rw [e.2] at hH
      exact g_iret X hH hS rfl e.1 dX6_chain_91
    · have hf := it_n hf c20
      refine lv_iconst (v := 0) X.hx X.hb dX6_chain_25 (by decide) ?_
      refine lv_istore (lv' := [(4, .int (0 : Int32)), (0, .ref (gad G o 0)), (2, .int x2), (3, .int x3)]) X.hx X.hb dX6_chain_26 hl (by decide) rfl (fun ls hl => ?_)
      exact bX6_chain_28 X  ho ih _ _ _ _ _  hf _ _ _ hH hS (lv_sub hl [1, 2, 3, 0] rfl)
set_option maxRecDepth 20000 in
set_option maxHeartbeats 4000000 in
theorem kX6_chain (l : Launch) {G : gG} {σ : Mem} {r : Int32} {σ' : Mem} {o : Nat} {x1 : Int32} {x2 : Int32} (ho : gsh G o = some 6)  (hf : fX6_chain σ o x1 x2 = some (r, σ')) : CM l yX6_chain cX6_chain 5 (some .int) 4 90 G σ [.ref (gad G o 0), .int x1, .int x2] (some (.int r)) σ' := by
  refine CM.of (by decide) (Nat.le_of_ble_eq_true rfl) (fun p e s m below meth c ls X hH hl => ?_)
  have X : gX p s m _ meth c yX6_chain cX6_chain 5 (some .int) RX6 G := X
  have hS : va_S (gAA G) s.heap s.heap [] := va_S.rf
  have hl : lv_has ls 5 [(0, .ref (gad G o 0)), (1, .int x1), (2, .int x2)] := hl
  rw [fX6_chain.eq_1] at hf
  refine lv_iload_n X.hx X.hb dX6_chain_0 rfl (lv_at hl 2 rfl) ?_
  refine lv_iconst (v := -1) X.hx X.hb dX6_chain_1 (by decide) ?_
  refine lv_icmp_lt (tgt := 13) X.hx X.hb dX6_chain_2 (by decide) (fun c21 => ?_) (fun c21 => ?_)
  · have hf := it_p hf c21
    refine lv_iconst (v := -1) X.hx X.hb dX6_chain_13 (by decide) ?_
    have e := so2 hf
    rw [e.2] at hH
    exact g_iret X hH hS rfl e.1 dX6_chain_14
  · have hf := it_n hf c21
    refine lv_aload_n X.hx X.hb dX6_chain_5 rfl (lv_at hl 0 rfl) ?_
    refine lv_iload_n X.hx X.hb dX6_chain_6 rfl (lv_at hl 1 rfl) ?_
    obtain ⟨r22, σ23, hr, hf⟩ := bd2_e hf
    refine g_callVI (As := [.int x1]) (rest := []) X (kX6_reads l ho hr) (C := RX6) (T := TX6) (N := 39) (ci := 6) rfl ho ⟨cdX6_reads, mlX6_247, imX6_reads, seX6_reads, iniX6⟩ hvX6_reads ⟨Nat.le_of_ble_eq_true rfl, Nat.le_of_ble_eq_true rfl⟩ hH hS hl rfl rfl (Nat.le_of_ble_eq_true rfl) ⟨Nat.le_refl 0, Nat.le_refl 0⟩ dX6_chain_7 (fun H locs hH hS => ?_)
    refine lv_if_ne (tgt := 15) X.hx X.hb dX6_chain_10 (by decide) (fun c24 => ?_) (fun c24 => ?_)
    · have hf := it_n hf c24
      refine lv_iconst (v := 0) X.hx X.hb dX6_chain_15 (by decide) ?_
      refine lv_istore_n (lv' := [(3, .int (0 : Int32)), (0, .ref (gad G o 0)), (1, .int x1), (2, .int x2)]) X.hx X.hb dX6_chain_16 rfl hl (by decide) rfl (fun ls hl => ?_)
      exact bX6_chain_17 X  ho  _ _ _ _  hf _ _ _ hH hS (lv_sub hl [1, 3, 0] rfl)
    · have hf := it_p hf c24
      refine lv_iconst (v := -1) X.hx X.hb dX6_chain_13 (by decide) ?_
      have e := so2 hf
      rw [e.2] at hH
      exact g_iret X hH hS rfl e.1 dX6_chain_14
set_option maxRecDepth 20000 in
set_option maxHeartbeats 4000000 in
theorem kX6_clerkRate (l : Launch) {G : gG} {σ : Mem} {r : Int32} {σ' : Mem} {o : Nat} {x1 : Int32} (ho : gsh G o = some 6)  (hf : fX6_clerkRate σ o x1 = some (r, σ')) : CM l yX6_clerkRate cX6_clerkRate 2 (some .int) 1 22 G σ [.ref (gad G o 0), .int x1] (some (.int r)) σ' := by
  refine CM.of (by decide) (Nat.le_of_ble_eq_true rfl) (fun p e s m below meth c ls X hH hl => ?_)
  have X : gX p s m _ meth c yX6_clerkRate cX6_clerkRate 2 (some .int) RX6 G := X
  have hS : va_S (gAA G) s.heap s.heap [] := va_S.rf
  have hl : lv_has ls 2 [(0, .ref (gad G o 0)), (1, .int x1)] := hl
  rw [fX6_clerkRate.eq_1] at hf
  refine lv_aload_n X.hx X.hb dX6_clerkRate_0 rfl (lv_at hl 0 rfl) ?_
  refine lv_dup X.hx X.hb dX6_clerkRate_1 rfl ?_
  refine gfX6_263 X hH ho dX6_clerkRate_2 ?_
  refine lv_lconst (v := 1) X.hx X.hb dX6_clerkRate_5 (by decide) ?_
  refine lv_ladd X.hx X.hb dX6_clerkRate_6 ?_
  refine pfX6_263 X hH hS ho  dX6_clerkRate_7 (fun H locs hH hS => ?_)
  obtain ⟨σ3, he, hf⟩ := stp_e hf
  rw [← he] at hH
  clear he
  refine lv_aload_n X.hx X.hb dX6_clerkRate_10 rfl (lv_at hl 0 rfl) ?_
  refine gfX6_23 X hH ho dX6_clerkRate_11 ?_
  refine lv_iconst (v := 3) X.hx X.hb dX6_clerkRate_14 (by decide) ?_
  refine lv_iload_n X.hx X.hb dX6_clerkRate_15 rfl (lv_at hl 1 rfl) ?_
  refine lv_imul X.hx X.hb dX6_clerkRate_16 ?_
  obtain ⟨hg, hf⟩ := gd_e hf
  refine g_iald X hH ⟨_, ho, rfl⟩ hg dX6_clerkRate_17 ?_
  obtain ⟨r4, hr, hf⟩ := bd_e hf
  refine g_callSI (As := [.int (mA σ3 o 6 ((3 : Int32) * x1).toNatClampNeg)]) (rest := []) X (kX6_bits l  hr) ⟨cdX6_bits, mlX6_188, stX6_bits, iniX6⟩ hsX6_bits ⟨Nat.le_of_ble_eq_true rfl, Nat.le_of_ble_eq_true rfl⟩ hH hS hl rfl rfl (Nat.le_of_ble_eq_true rfl) ⟨Nat.le_refl 0, Nat.le_refl 0⟩ dX6_clerkRate_18 (fun H locs hH hS => ?_)
  have e := so2 hf
  rw [e.2] at hH
  exact g_iret X hH hS rfl e.1 dX6_clerkRate_21
set_option maxRecDepth 20000 in
set_option maxHeartbeats 4000000 in
theorem kX6_nunRate (l : Launch) {G : gG} {σ : Mem} {r : Int32} {σ' : Mem} {o : Nat} {x1 : Int32} (ho : gsh G o = some 6)  (hf : fX6_nunRate σ o x1 = some (r, σ')) : CM l yX6_nunRate cX6_nunRate 2 (some .int) 2 43 G σ [.ref (gad G o 0), .int x1] (some (.int r)) σ' := by
  refine CM.of (by decide) (Nat.le_of_ble_eq_true rfl) (fun p e s m below meth c ls X hH hl => ?_)
  have X : gX p s m _ meth c yX6_nunRate cX6_nunRate 2 (some .int) RX6 G := X
  have hS : va_S (gAA G) s.heap s.heap [] := va_S.rf
  have hl : lv_has ls 2 [(0, .ref (gad G o 0)), (1, .int x1)] := hl
  rw [fX6_nunRate.eq_1] at hf
  refine lv_aload_n X.hx X.hb dX6_nunRate_0 rfl (lv_at hl 0 rfl) ?_
  refine lv_dup X.hx X.hb dX6_nunRate_1 rfl ?_
  refine gfX6_263 X hH ho dX6_nunRate_2 ?_
  refine lv_ldc2 X.hx X.hb X.hown (X.w kcX6_214) dX6_nunRate_5 ?_
  refine lv_ladd X.hx X.hb dX6_nunRate_8 ?_
  refine pfX6_263 X hH hS ho  dX6_nunRate_9 (fun H locs hH hS => ?_)
  obtain ⟨σ4, he, hf⟩ := stp_e hf
  rw [← he] at hH
  clear he
  refine lv_aload_n X.hx X.hb dX6_nunRate_12 rfl (lv_at hl 0 rfl) ?_
  refine lv_iload_n X.hx X.hb dX6_nunRate_13 rfl (lv_at hl 1 rfl) ?_
  obtain ⟨r5, σ6, hr, hf⟩ := bd2_e hf
  refine g_callVI (As := [.int x1]) (rest := []) X (kX6_clerkRate l ho hr) (C := RX6) (T := TX6) (N := 39) (ci := 6) rfl ho ⟨cdX6_clerkRate, mlX6_267, imX6_clerkRate, seX6_clerkRate, iniX6⟩ hvX6_clerkRate ⟨Nat.le_of_ble_eq_true rfl, Nat.le_of_ble_eq_true rfl⟩ hH hS hl rfl rfl (Nat.le_of_ble_eq_true rfl) ⟨Nat.le_refl 0, Nat.le_refl 0⟩ dX6_nunRate_14 (fun H locs hH hS => ?_)
  refine lv_aload_n X.hx X.hb dX6_nunRate_17 rfl (lv_at hl 0 rfl) ?_
  refine gfX6_23 X hH ho dX6_nunRate_18 ?_
  refine lv_iconst (v := 3) X.hx X.hb dX6_nunRate_21 (by decide) ?_
  refine lv_iload_n X.hx X.hb dX6_nunRate_22 rfl (lv_at hl 1 rfl) ?_
  refine lv_imul X.hx X.hb dX6_nunRate_23 ?_
  refine lv_iconst (v := 1) X.hx X.hb dX6_nunRate_24 (by decide) ?_
  refine lv_iadd X.hx X.hb dX6_nunRate_25 ?_
  obtain ⟨hg, hf⟩ := gd_e hf
  refine g_iald X hH ⟨_, ho, rfl⟩ hg dX6_nunRate_26 ?_
  refine lv_iadd X.hx X.hb dX6_nunRate_27 ?_
  have e := so2 hf
  rw [e.2] at hH
  exact g_iret X hH hS rfl e.1 dX6_nunRate_28
