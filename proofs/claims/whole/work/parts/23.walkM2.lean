set_option maxRecDepth 20000 in
set_option maxHeartbeats 4000000 in
theorem kX6_nephewRate (l : Launch) {G : gG} {σ : Mem} {r : Int32} {σ' : Mem} {o : Nat} {x1 : Int32} (ho : gsh G o = some 6)  (hf : fX6_nephewRate σ o x1 = some (r, σ')) : CM l yX6_nephewRate cX6_nephewRate 2 (some .int) 2 43 G σ [.ref (gad G o 0), .int x1] (some (.int r)) σ' := by
  refine CM.of (by decide) (Nat.le_of_ble_eq_true rfl) (fun p e s m below meth c ls X hH hl => ?_)
  have X : gX p s m _ meth c yX6_nephewRate cX6_nephewRate 2 (some .int) RX6 G := X
  have hS : va_S (gAA G) s.heap s.heap [] := va_S.rf
  have hl : lv_has ls 2 [(0, .ref (gad G o 0)), (1, .int x1)] := hl
  rw [fX6_nephewRate.eq_1] at hf
  refine lv_aload_n X.hx X.hb dX6_nephewRate_0 rfl (lv_at hl 0 rfl) ?_
  refine lv_dup X.hx X.hb dX6_nephewRate_1 rfl ?_
  refine gfX6_263 X hH ho dX6_nephewRate_2 ?_
  refine lv_ldc2 X.hx X.hb X.hown (X.w kcX6_270) dX6_nephewRate_5 ?_
  refine lv_ladd X.hx X.hb dX6_nephewRate_8 ?_
  refine pfX6_263 X hH hS ho  dX6_nephewRate_9 (fun H locs hH hS => ?_)
  obtain ⟨σ4, he, hf⟩ := stp_e hf
  rw [← he] at hH
  clear he
  refine lv_aload_n X.hx X.hb dX6_nephewRate_12 rfl (lv_at hl 0 rfl) ?_
  refine lv_iload_n X.hx X.hb dX6_nephewRate_13 rfl (lv_at hl 1 rfl) ?_
  obtain ⟨r5, σ6, hr, hf⟩ := bd2_e hf
  refine g_callVI (As := [.int x1]) (rest := []) X (kX6_clerkRate l ho hr) (C := RX6) (T := TX6) (N := 39) (ci := 6) rfl ho ⟨cdX6_clerkRate, mlX6_267, imX6_clerkRate, seX6_clerkRate, iniX6⟩ hvX6_clerkRate ⟨Nat.le_of_ble_eq_true rfl, Nat.le_of_ble_eq_true rfl⟩ hH hS hl rfl rfl (Nat.le_of_ble_eq_true rfl) ⟨Nat.le_refl 0, Nat.le_refl 0⟩ dX6_nephewRate_14 (fun H locs hH hS => ?_)
  refine lv_aload_n X.hx X.hb dX6_nephewRate_17 rfl (lv_at hl 0 rfl) ?_
  refine gfX6_23 X hH ho dX6_nephewRate_18 ?_
  refine lv_iconst (v := 3) X.hx X.hb dX6_nephewRate_21 (by decide) ?_
  refine lv_iload_n X.hx X.hb dX6_nephewRate_22 rfl (lv_at hl 1 rfl) ?_
  refine lv_imul X.hx X.hb dX6_nephewRate_23 ?_
  refine lv_iconst (v := 2) X.hx X.hb dX6_nephewRate_24 (by decide) ?_
  refine lv_iadd X.hx X.hb dX6_nephewRate_25 ?_
  obtain ⟨hg, hf⟩ := gd_e hf
  refine g_iald X hH ⟨_, ho, rfl⟩ hg dX6_nephewRate_26 ?_
  refine lv_isub X.hx X.hb dX6_nephewRate_27 ?_
  have e := so2 hf
  rw [e.2] at hH
  exact g_iret X hH hS rfl e.1 dX6_nephewRate_28
set_option maxRecDepth 20000 in
set_option maxHeartbeats 4000000 in
theorem kX6_rate (l : Launch) {G : gG} {σ : Mem} {r : Int32} {σ' : Mem} {o : Nat} {x1 : Int32} {x2 : Int32} (ho : gsh G o = some 6)  (hf : fX6_rate σ o x1 x2 = some (r, σ')) : CM l yX6_rate cX6_rate 3 (some .int) 3 64 G σ [.ref (gad G o 0), .int x1, .int x2] (some (.int r)) σ' := by
  refine CM.of (by decide) (Nat.le_of_ble_eq_true rfl) (fun p e s m below meth c ls X hH hl => ?_)
  have X : gX p s m _ meth c yX6_rate cX6_rate 3 (some .int) RX6 G := X
  have hS : va_S (gAA G) s.heap s.heap [] := va_S.rf
  have hl : lv_has ls 3 [(0, .ref (gad G o 0)), (1, .int x1), (2, .int x2)] := hl
  rw [fX6_rate.eq_1] at hf
  refine lv_iload_n X.hx X.hb dX6_rate_0 rfl (lv_at hl 1 rfl) ?_
  refine lv_iconst (v := 0) X.hx X.hb dX6_rate_1 (by decide) ?_
  refine lv_iconst (v := 5) X.hx X.hb dX6_rate_2 (by decide) ?_
  obtain ⟨r27, hr, hf⟩ := bd_e hf
  refine g_callSI (As := [.int x1, .int (0 : Int32), .int (5 : Int32)]) (rest := []) X (kX6_in l  hr) ⟨cdX6_in, mlX6_85, stX6_in, iniX6⟩ hsX6_in ⟨Nat.le_of_ble_eq_true rfl, Nat.le_of_ble_eq_true rfl⟩ hH hS hl rfl rfl (Nat.le_of_ble_eq_true rfl) ⟨Nat.le_refl 0, Nat.le_refl 0⟩ dX6_rate_3 (fun H locs hH hS => ?_)
  refine lv_if_eq (tgt := 17) X.hx X.hb dX6_rate_6 (by decide) (fun c28 => ?_) (fun c28 => ?_)
  · have hf := it_p hf c28
    refine lv_ldcw X.hx X.hb X.hown (X.w kcX6_272) dX6_rate_17 ?_
    have e := so2 hf
    rw [e.2] at hH
    exact g_iret X hH hS rfl e.1 dX6_rate_20
  · have hf := it_n hf c28
    refine lv_aload_n X.hx X.hb dX6_rate_9 rfl (lv_at hl 0 rfl) ?_
    refine lv_iload_n X.hx X.hb dX6_rate_10 rfl (lv_at hl 2 rfl) ?_
    obtain ⟨r29, hr, hf⟩ := bd_e hf
    refine g_callVI (As := [.int x2]) (rest := []) X (kX6_isClerk l ho hr) (C := RX6) (T := TX6) (N := 39) (ci := 6) rfl ho ⟨cdX6_isClerk, mlX6_162, imX6_isClerk, seX6_isClerk, iniX6⟩ hvX6_isClerk ⟨Nat.le_of_ble_eq_true rfl, Nat.le_of_ble_eq_true rfl⟩ hH hS hl rfl rfl (Nat.le_of_ble_eq_true rfl) ⟨Nat.le_refl 0, Nat.le_refl 0⟩ dX6_rate_11 (fun H locs hH hS => ?_)
    refine lv_if_ne (tgt := 21) X.hx X.hb dX6_rate_14 (by decide) (fun c30 => ?_) (fun c30 => ?_)
    · have hf := it_n hf c30
      refine lv_iload_n X.hx X.hb dX6_rate_21 rfl (lv_at hl 1 rfl) ?_
      by_cases c31 : x1 = (0 : Int32)
      · have hf := it_p hf c31
        refine lv_tableIn (tgt := 56) X.hx X.hb dX6_rate_22 (by rw [c31]; decide) (by rw [c31]; decide) (off := 34) (by rw [c31]; decide) (by decide) ?_
        refine lv_aload_n X.hx X.hb dX6_rate_56 rfl (lv_at hl 0 rfl) ?_
        refine lv_iload_n X.hx X.hb dX6_rate_57 rfl (lv_at hl 2 rfl) ?_
        obtain ⟨r32, σ33, hr, hf⟩ := bd2_e hf
        refine g_callVI (As := [.int x2]) (rest := []) X (kX6_clerkRate l ho hr) (C := RX6) (T := TX6) (N := 39) (ci := 6) rfl ho ⟨cdX6_clerkRate, mlX6_267, imX6_clerkRate, seX6_clerkRate, iniX6⟩ hvX6_clerkRate ⟨Nat.le_of_ble_eq_true rfl, Nat.le_of_ble_eq_true rfl⟩ hH hS hl rfl rfl (Nat.le_of_ble_eq_true rfl) ⟨Nat.le_refl 0, Nat.le_refl 0⟩ dX6_rate_58 (fun H locs hH hS => ?_)
        have e := so2 hf
        rw [e.2] at hH
        exact g_iret X hH hS rfl e.1 dX6_rate_61
      · have hf := it_n hf c31
        by_cases c34 : x1 = (1 : Int32)
        · have hf := it_p hf c34
          refine lv_tableIn (tgt := 62) X.hx X.hb dX6_rate_22 (by rw [c34]; decide) (by rw [c34]; decide) (off := 40) (by rw [c34]; decide) (by decide) ?_
          refine lv_aload_n X.hx X.hb dX6_rate_62 rfl (lv_at hl 0 rfl) ?_
          refine lv_iload_n X.hx X.hb dX6_rate_63 rfl (lv_at hl 2 rfl) ?_
          obtain ⟨r35, σ36, hr, hf⟩ := bd2_e hf
          refine g_callVI (As := [.int x2]) (rest := []) X (kX6_nunRate l ho hr) (C := RX6) (T := TX6) (N := 39) (ci := 6) rfl ho ⟨cdX6_nunRate, mlX6_273, imX6_nunRate, seX6_nunRate, iniX6⟩ hvX6_nunRate ⟨Nat.le_of_ble_eq_true rfl, Nat.le_of_ble_eq_true rfl⟩ hH hS hl rfl rfl (Nat.le_of_ble_eq_true rfl) ⟨Nat.le_refl 0, Nat.le_refl 0⟩ dX6_rate_64 (fun H locs hH hS => ?_)
          have e := so2 hf
          rw [e.2] at hH
          exact g_iret X hH hS rfl e.1 dX6_rate_67
        · have hf := it_n hf c34
          by_cases c37 : x1 = (2 : Int32)
          · have hf := it_p hf c37
            refine lv_tableIn (tgt := 68) X.hx X.hb dX6_rate_22 (by rw [c37]; decide) (by rw [c37]; decide) (off := 46) (by rw [c37]; decide) (by decide) ?_
            refine lv_aload_n X.hx X.hb dX6_rate_68 rfl (lv_at hl 0 rfl) ?_
            refine lv_iload_n X.hx X.hb dX6_rate_69 rfl (lv_at hl 2 rfl) ?_
            obtain ⟨r38, σ39, hr, hf⟩ := bd2_e hf
            refine g_callVI (As := [.int x2]) (rest := []) X (kX6_nephewRate l ho hr) (C := RX6) (T := TX6) (N := 39) (ci := 6) rfl ho ⟨cdX6_nephewRate, mlX6_276, imX6_nephewRate, seX6_nephewRate, iniX6⟩ hvX6_nephewRate ⟨Nat.le_of_ble_eq_true rfl, Nat.le_of_ble_eq_true rfl⟩ hH hS hl rfl rfl (Nat.le_of_ble_eq_true rfl) ⟨Nat.le_refl 0, Nat.le_refl 0⟩ dX6_rate_70 (fun H locs hH hS => ?_)
            have e := so2 hf
            rw [e.2] at hH
            exact g_iret X hH hS rfl e.1 dX6_rate_73
          · have hf := it_n hf c37
            by_cases c40 : x1 = (3 : Int32)
            · have hf := it_p hf c40
              refine lv_tableIn (tgt := 74) X.hx X.hb dX6_rate_22 (by rw [c40]; decide) (by rw [c40]; decide) (off := 52) (by rw [c40]; decide) (by decide) ?_
              refine lv_aload_n X.hx X.hb dX6_rate_74 rfl (lv_at hl 0 rfl) ?_
              refine lv_dup X.hx X.hb dX6_rate_75 rfl ?_
              refine gfX6_263 X hH ho dX6_rate_76 ?_
              refine lv_ldc2 X.hx X.hb X.hown (X.w kcX6_279) dX6_rate_79 ?_
              refine lv_ladd X.hx X.hb dX6_rate_82 ?_
              refine pfX6_263 X hH hS ho  dX6_rate_83 (fun H locs hH hS => ?_)
              obtain ⟨σ41, he, hf⟩ := stp_e hf
              rw [← he] at hH
              clear he
              refine lv_iconst (v := 2) X.hx X.hb dX6_rate_86 (by decide) ?_
              refine lv_aload_n X.hx X.hb dX6_rate_87 rfl (lv_at hl 0 rfl) ?_
              refine lv_iload_n X.hx X.hb dX6_rate_88 rfl (lv_at hl 2 rfl) ?_
              obtain ⟨r42, σ43, hr, hf⟩ := bd2_e hf
              refine g_callVI (As := [.int x2]) (rest := [.int (2 : Int32)]) X (kX6_nunRate l ho hr) (C := RX6) (T := TX6) (N := 39) (ci := 6) rfl ho ⟨cdX6_nunRate, mlX6_273, imX6_nunRate, seX6_nunRate, iniX6⟩ hvX6_nunRate ⟨Nat.le_of_ble_eq_true rfl, Nat.le_of_ble_eq_true rfl⟩ hH hS hl rfl rfl (Nat.le_of_ble_eq_true rfl) ⟨Nat.le_refl 0, Nat.le_refl 0⟩ dX6_rate_89 (fun H locs hH hS => ?_)
              refine lv_imul X.hx X.hb dX6_rate_92 ?_
              have e := so2 hf
              rw [e.2] at hH
              exact g_iret X hH hS rfl e.1 dX6_rate_93
            · have hf := it_n hf c40
              by_cases c44 : x1 = (4 : Int32)
              · have hf := it_p hf c44
                refine lv_tableIn (tgt := 94) X.hx X.hb dX6_rate_22 (by rw [c44]; decide) (by rw [c44]; decide) (off := 72) (by rw [c44]; decide) (by decide) ?_
                refine lv_aload_n X.hx X.hb dX6_rate_94 rfl (lv_at hl 0 rfl) ?_
                refine lv_dup X.hx X.hb dX6_rate_95 rfl ?_
                refine gfX6_263 X hH ho dX6_rate_96 ?_
                refine lv_ldc2 X.hx X.hb X.hown (X.w kcX6_281) dX6_rate_99 ?_
                refine lv_ladd X.hx X.hb dX6_rate_102 ?_
                refine pfX6_263 X hH hS ho  dX6_rate_103 (fun H locs hH hS => ?_)
                obtain ⟨σ45, he, hf⟩ := stp_e hf
                rw [← he] at hH
                clear he
                refine lv_aload_n X.hx X.hb dX6_rate_106 rfl (lv_at hl 0 rfl) ?_
                refine lv_iload_n X.hx X.hb dX6_rate_107 rfl (lv_at hl 2 rfl) ?_
                obtain ⟨r46, σ47, hr, hf⟩ := bd2_e hf
                refine g_callVI (As := [.int x2]) (rest := []) X (kX6_nephewRate l ho hr) (C := RX6) (T := TX6) (N := 39) (ci := 6) rfl ho ⟨cdX6_nephewRate, mlX6_276, imX6_nephewRate, seX6_nephewRate, iniX6⟩ hvX6_nephewRate ⟨Nat.le_of_ble_eq_true rfl, Nat.le_of_ble_eq_true rfl⟩ hH hS hl rfl rfl (Nat.le_of_ble_eq_true rfl) ⟨Nat.le_refl 0, Nat.le_refl 0⟩ dX6_rate_108 (fun H locs hH hS => ?_)
                refine lv_iload_n X.hx X.hb dX6_rate_111 rfl (lv_at hl 2 rfl) ?_
                refine lv_iadd X.hx X.hb dX6_rate_112 ?_
                have e := so2 hf
                rw [e.2] at hH
                exact g_iret X hH hS rfl e.1 dX6_rate_113
              · have hf := it_n hf c44
                refine lv_tableOut (tgt := 114) X.hx X.hb dX6_rate_22 (by have := c31; have e0 := lv_neT c31 (a := 0) (by decide); have e1 := lv_neT c34 (a := 1) (by decide); have e2 := lv_neT c37 (a := 2) (by decide); have e3 := lv_neT c40 (a := 3) (by decide); have e4 := lv_neT c44 (a := 4) (by decide); omega) (by decide) ?_
                refine lv_aload_n X.hx X.hb dX6_rate_114 rfl (lv_at hl 0 rfl) ?_
                refine lv_dup X.hx X.hb dX6_rate_115 rfl ?_
                refine gfX6_263 X hH ho dX6_rate_116 ?_
                refine lv_ldc2 X.hx X.hb X.hown (X.w kcX6_283) dX6_rate_119 ?_
                refine lv_ladd X.hx X.hb dX6_rate_122 ?_
                refine pfX6_263 X hH hS ho  dX6_rate_123 (fun H locs hH hS => ?_)
                obtain ⟨σ48, he, hf⟩ := stp_e hf
                rw [← he] at hH
                clear he
                refine lv_aload_n X.hx X.hb dX6_rate_126 rfl (lv_at hl 0 rfl) ?_
                refine lv_iload_n X.hx X.hb dX6_rate_127 rfl (lv_at hl 2 rfl) ?_
                obtain ⟨r49, σ50, hr, hf⟩ := bd2_e hf
                refine g_callVI (As := [.int x2]) (rest := []) X (kX6_clerkRate l ho hr) (C := RX6) (T := TX6) (N := 39) (ci := 6) rfl ho ⟨cdX6_clerkRate, mlX6_267, imX6_clerkRate, seX6_clerkRate, iniX6⟩ hvX6_clerkRate ⟨Nat.le_of_ble_eq_true rfl, Nat.le_of_ble_eq_true rfl⟩ hH hS hl rfl rfl (Nat.le_of_ble_eq_true rfl) ⟨Nat.le_refl 0, Nat.le_refl 0⟩ dX6_rate_128 (fun H locs hH hS => ?_)
                refine lv_aload_n X.hx X.hb dX6_rate_131 rfl (lv_at hl 0 rfl) ?_
                obtain ⟨r51, hr, hf⟩ := bd_e hf
                refine g_callVI (As := []) (rest := [.int r49]) X (kX6_goneSet l ho hr) (C := RX6) (T := TX6) (N := 39) (ci := 6) rfl ho ⟨cdX6_goneSet, mlX6_172, imX6_goneSet, seX6_goneSet, iniX6⟩ hvX6_goneSet ⟨Nat.le_of_ble_eq_true rfl, Nat.le_of_ble_eq_true rfl⟩ hH hS hl rfl rfl (Nat.le_of_ble_eq_true rfl) ⟨Nat.le_refl 0, Nat.le_refl 0⟩ dX6_rate_132 (fun H locs hH hS => ?_)
                obtain ⟨r52, hr, hf⟩ := bd_e hf
                refine g_callSI (As := [.int r51]) (rest := [.int r49]) X (kX6_bits l  hr) ⟨cdX6_bits, mlX6_188, stX6_bits, iniX6⟩ hsX6_bits ⟨Nat.le_of_ble_eq_true rfl, Nat.le_of_ble_eq_true rfl⟩ hH hS hl rfl rfl (Nat.le_of_ble_eq_true rfl) ⟨Nat.le_refl 0, Nat.le_refl 0⟩ dX6_rate_135 (fun H locs hH hS => ?_)
                refine lv_iadd X.hx X.hb dX6_rate_138 ?_
                have e := so2 hf
                rw [e.2] at hH
                exact g_iret X hH hS rfl e.1 dX6_rate_139
    · have hf := it_p hf c30
      refine lv_ldcw X.hx X.hb X.hown (X.w kcX6_272) dX6_rate_17 ?_
      have e := so2 hf
      rw [e.2] at hH
      exact g_iret X hH hS rfl e.1 dX6_rate_20
set_option maxRecDepth 20000 in
set_option maxHeartbeats 4000000 in
theorem bX6_keep_13 {p : Program} {l : Launch} {e : Env} {s : State} {m : MethodId} {args : Array Value} {below : List Frame} {meth : Method} {c : Code} {G : gG} (X : gX p s m args meth c yX6_keep cX6_keep 3 (some .int) RX6 G) {o : Nat} (ho : gsh G o = some 6)  {r : Int32} {σ' : Mem} : (∀ (n : Nat) (σ : Mem) (x1 : Int32) (x2 : Int32), fX6_keep_13 o n σ x1 x2 = some (r, σ') → ∀ (H : Heap) (locs : List Loc) (ls : Array Slot), gH G σ H → va_S (gAA G) s.heap H locs → lv_has ls 3 [(0, .ref (gad G o 0)), (1, .int x1), (2, .int x2)] → WB p l e 1 22 s m args below meth c G (some (.int r)) σ' H locs (F0 m 13 ls [])) := by
  intro n
  induction n with
  | zero => intro σ x1 x2 hf H locs ls hH hS hl; exact nomatch (show (none : Option (Int32 × Mem)) = some _ from hf)
  | succ n ih =>
    intro σ x1 x2 hf H locs ls hH hS hl
    rw [fX6_keep_13.eq_2] at hf
    refine lv_iload_n X.hx X.hb dX6_keep_13 rfl (lv_at hl 2 rfl) ?_
    refine lv_bipush (v := 26) X.hx X.hb dX6_keep_14 (by decide) ?_
    refine lv_icmp_ge (tgt := 42) X.hx X.hb dX6_keep_16 (by decide) (fun c6 => ?_) (fun c6 => ?_)
    · have hf := it_p hf c6
      refine lv_aload_n X.hx X.hb dX6_keep_42 rfl (lv_at hl 0 rfl) ?_
      refine gfX6_35 X hH ho dX6_keep_43 ?_
      refine lv_iload_n X.hx X.hb dX6_keep_46 rfl (lv_at hl 1 rfl) ?_
      refine lv_iconst (v := 1) X.hx X.hb dX6_keep_47 (by decide) ?_
      obtain ⟨hg, hf⟩ := gd_e hf
      refine g_zast X hH hS ⟨_, ho, rfl⟩ rfl hg dX6_keep_48 (fun H locs hH hS => ?_)
      obtain ⟨σ7, he, hf⟩ := stp_e hf
      rw [← he] at hH
      clear he
      refine lv_aload_n X.hx X.hb dX6_keep_49 rfl (lv_at hl 0 rfl) ?_
      refine gfX6_26 X hH ho dX6_keep_50 ?_
      refine lv_iconst (v := 0) X.hx X.hb dX6_keep_53 (by decide) ?_
      obtain ⟨hg, hf⟩ := gd_e hf
      refine g_iald X hH ⟨_, ho, rfl⟩ hg dX6_keep_54 ?_
      have e := so2 hf
      rw [e.2] at hH
      exact g_iret X hH hS rfl e.1 dX6_keep_55
    · have hf := it_n hf c6
      refine lv_aload_n X.hx X.hb dX6_keep_19 rfl (lv_at hl 0 rfl) ?_
      refine gfX6_32 X hH ho dX6_keep_20 ?_
      refine lv_bipush (v := 26) X.hx X.hb dX6_keep_23 (by decide) ?_
      refine lv_iload_n X.hx X.hb dX6_keep_25 rfl (lv_at hl 1 rfl) ?_
      refine lv_imul X.hx X.hb dX6_keep_26 ?_
      refine lv_iload_n X.hx X.hb dX6_keep_27 rfl (lv_at hl 2 rfl) ?_
      refine lv_iadd X.hx X.hb dX6_keep_28 ?_
      refine lv_aload_n X.hx X.hb dX6_keep_29 rfl (lv_at hl 0 rfl) ?_
      refine gfX6_26 X hH ho dX6_keep_30 ?_
      refine lv_iload_n X.hx X.hb dX6_keep_33 rfl (lv_at hl 2 rfl) ?_
      obtain ⟨hg, hf⟩ := gd_e hf
      refine g_iald X hH ⟨_, ho, rfl⟩ hg dX6_keep_34 ?_
      obtain ⟨hg, hf⟩ := gd_e hf
      refine g_iast X hH hS ⟨_, ho, rfl⟩ hg dX6_keep_35 (fun H locs hH hS => ?_)
      obtain ⟨σ8, he, hf⟩ := stp_e hf
      rw [← he] at hH
      clear he
      refine lv_iinc (v := x2 + 1) (lv' := [(2, .int (x2 + 1)), (0, .ref (gad G o 0)), (1, .int x1)]) X.hx X.hb dX6_keep_36 hl (k := 2) rfl rfl (by decide) rfl (fun ls hl => ?_)
      refine lv_goto (tgt := 13) X.hx X.hb dX6_keep_39 (by decide) ?_
      exact ih _ _ _  hf _ _ _ hH hS (lv_sub hl [1, 2, 0] rfl)
set_option maxRecDepth 20000 in
set_option maxHeartbeats 4000000 in
theorem kX6_keep (l : Launch) {G : gG} {σ : Mem} {r : Int32} {σ' : Mem} {o : Nat} {x1 : Int32} (ho : gsh G o = some 6)  (hf : fX6_keep σ o x1 = some (r, σ')) : CM l yX6_keep cX6_keep 3 (some .int) 1 22 G σ [.ref (gad G o 0), .int x1] (some (.int r)) σ' := by
  refine CM.of (by decide) (Nat.le_of_ble_eq_true rfl) (fun p e s m below meth c ls X hH hl => ?_)
  have X : gX p s m _ meth c yX6_keep cX6_keep 3 (some .int) RX6 G := X
  have hS : va_S (gAA G) s.heap s.heap [] := va_S.rf
  have hl : lv_has ls 3 [(0, .ref (gad G o 0)), (1, .int x1)] := hl
  rw [fX6_keep.eq_1] at hf
  refine lv_iload_n X.hx X.hb dX6_keep_0 rfl (lv_at hl 1 rfl) ?_
  refine lv_iconst (v := 0) X.hx X.hb dX6_keep_1 (by decide) ?_
  refine lv_iconst (v := 1) X.hx X.hb dX6_keep_2 (by decide) ?_
  obtain ⟨r9, hr, hf⟩ := bd_e hf
  refine g_callSI (As := [.int x1, .int (0 : Int32), .int (1 : Int32)]) (rest := []) X (kX6_in l  hr) ⟨cdX6_in, mlX6_85, stX6_in, iniX6⟩ hsX6_in ⟨Nat.le_of_ble_eq_true rfl, Nat.le_of_ble_eq_true rfl⟩ hH hS hl rfl rfl (Nat.le_of_ble_eq_true rfl) ⟨Nat.le_refl 0, Nat.le_refl 0⟩ dX6_keep_3 (fun H locs hH hS => ?_)
  refine lv_if_ne (tgt := 11) X.hx X.hb dX6_keep_6 (by decide) (fun c10 => ?_) (fun c10 => ?_)
  · have hf := it_n hf c10
    refine lv_iconst (v := 0) X.hx X.hb dX6_keep_11 (by decide) ?_
    refine lv_istore_n (lv' := [(2, .int (0 : Int32)), (0, .ref (gad G o 0)), (1, .int x1)]) X.hx X.hb dX6_keep_12 rfl hl (by decide) rfl (fun ls hl => ?_)
    exact bX6_keep_13 X  ho  _ _ _ _  hf _ _ _ hH hS (lv_sub hl [1, 2, 0] rfl)
  · have hf := it_p hf c10
    refine lv_iconst (v := -1) X.hx X.hb dX6_keep_9 (by decide) ?_
    have e := so2 hf
    rw [e.2] at hH
    exact g_iret X hH hS rfl e.1 dX6_keep_10
set_option maxRecDepth 20000 in
set_option maxHeartbeats 4000000 in
theorem bX6_back_25 {p : Program} {l : Launch} {e : Env} {s : State} {m : MethodId} {args : Array Value} {below : List Frame} {meth : Method} {c : Code} {G : gG} (X : gX p s m args meth c yX6_back cX6_back 3 (some .int) RX6 G) {o : Nat} (ho : gsh G o = some 6)  {r : Int32} {σ' : Mem} : (∀ (n : Nat) (σ : Mem) (x1 : Int32) (x2 : Int32), fX6_back_25 o n σ x1 x2 = some (r, σ') → ∀ (H : Heap) (locs : List Loc) (ls : Array Slot), gH G σ H → va_S (gAA G) s.heap H locs → lv_has ls 3 [(0, .ref (gad G o 0)), (1, .int x1), (2, .int x2)] → WB p l e 1 22 s m args below meth c G (some (.int r)) σ' H locs (F0 m 25 ls [])) := by
  intro n
  induction n with
  | zero => intro σ x1 x2 hf H locs ls hH hS hl; exact nomatch (show (none : Option (Int32 × Mem)) = some _ from hf)
  | succ n ih =>
    intro σ x1 x2 hf H locs ls hH hS hl
    rw [fX6_back_25.eq_2] at hf
    refine lv_iload_n X.hx X.hb dX6_back_25 rfl (lv_at hl 2 rfl) ?_
    refine lv_bipush (v := 26) X.hx X.hb dX6_back_26 (by decide) ?_
    refine lv_icmp_ge (tgt := 54) X.hx X.hb dX6_back_28 (by decide) (fun c7 => ?_) (fun c7 => ?_)
    · have hf := it_p hf c7
      refine lv_aload_n X.hx X.hb dX6_back_54 rfl (lv_at hl 0 rfl) ?_
      refine lv_iconst (v := 0) X.hx X.hb dX6_back_55 (by decide) ?_
      refine pfX6_152 X hH hS ho  dX6_back_56 (fun H locs hH hS => ?_)
      obtain ⟨σ8, he, hf⟩ := stp_e hf
      rw [← he] at hH
      clear he
      refine lv_aload_n X.hx X.hb dX6_back_59 rfl (lv_at hl 0 rfl) ?_
      refine gfX6_26 X hH ho dX6_back_60 ?_
      refine lv_iconst (v := 0) X.hx X.hb dX6_back_63 (by decide) ?_
      obtain ⟨hg, hf⟩ := gd_e hf
      refine g_iald X hH ⟨_, ho, rfl⟩ hg dX6_back_64 ?_
      have e := so2 hf
      rw [e.2] at hH
      exact g_iret X hH hS rfl e.1 dX6_back_65
    · have hf := it_n hf c7
      refine lv_aload_n X.hx X.hb dX6_back_31 rfl (lv_at hl 0 rfl) ?_
      refine gfX6_26 X hH ho dX6_back_32 ?_
      refine lv_iload_n X.hx X.hb dX6_back_35 rfl (lv_at hl 2 rfl) ?_
      refine lv_aload_n X.hx X.hb dX6_back_36 rfl (lv_at hl 0 rfl) ?_
      refine gfX6_32 X hH ho dX6_back_37 ?_
      refine lv_bipush (v := 26) X.hx X.hb dX6_back_40 (by decide) ?_
      refine lv_iload_n X.hx X.hb dX6_back_42 rfl (lv_at hl 1 rfl) ?_
      refine lv_imul X.hx X.hb dX6_back_43 ?_
      refine lv_iload_n X.hx X.hb dX6_back_44 rfl (lv_at hl 2 rfl) ?_
      refine lv_iadd X.hx X.hb dX6_back_45 ?_
      obtain ⟨hg, hf⟩ := gd_e hf
      refine g_iald X hH ⟨_, ho, rfl⟩ hg dX6_back_46 ?_
      obtain ⟨hg, hf⟩ := gd_e hf
      refine g_iast X hH hS ⟨_, ho, rfl⟩ hg dX6_back_47 (fun H locs hH hS => ?_)
      obtain ⟨σ9, he, hf⟩ := stp_e hf
      rw [← he] at hH
      clear he
      refine lv_iinc (v := x2 + 1) (lv' := [(2, .int (x2 + 1)), (0, .ref (gad G o 0)), (1, .int x1)]) X.hx X.hb dX6_back_48 hl (k := 2) rfl rfl (by decide) rfl (fun ls hl => ?_)
      refine lv_goto (tgt := 25) X.hx X.hb dX6_back_51 (by decide) ?_
      exact ih _ _ _  hf _ _ _ hH hS (lv_sub hl [1, 2, 0] rfl)
set_option maxRecDepth 20000 in
set_option maxHeartbeats 4000000 in
theorem kX6_back (l : Launch) {G : gG} {σ : Mem} {r : Int32} {σ' : Mem} {o : Nat} {x1 : Int32} (ho : gsh G o = some 6)  (hf : fX6_back σ o x1 = some (r, σ')) : CM l yX6_back cX6_back 3 (some .int) 1 22 G σ [.ref (gad G o 0), .int x1] (some (.int r)) σ' := by
  refine CM.of (by decide) (Nat.le_of_ble_eq_true rfl) (fun p e s m below meth c ls X hH hl => ?_)
  have X : gX p s m _ meth c yX6_back cX6_back 3 (some .int) RX6 G := X
  have hS : va_S (gAA G) s.heap s.heap [] := va_S.rf
  have hl : lv_has ls 3 [(0, .ref (gad G o 0)), (1, .int x1)] := hl
  rw [fX6_back.eq_1] at hf
  refine lv_iload_n X.hx X.hb dX6_back_0 rfl (lv_at hl 1 rfl) ?_
  refine lv_iconst (v := 0) X.hx X.hb dX6_back_1 (by decide) ?_
  refine lv_iconst (v := 1) X.hx X.hb dX6_back_2 (by decide) ?_
  obtain ⟨r10, hr, hf⟩ := bd_e hf
  refine g_callSI (As := [.int x1, .int (0 : Int32), .int (1 : Int32)]) (rest := []) X (kX6_in l  hr) ⟨cdX6_in, mlX6_85, stX6_in, iniX6⟩ hsX6_in ⟨Nat.le_of_ble_eq_true rfl, Nat.le_of_ble_eq_true rfl⟩ hH hS hl rfl rfl (Nat.le_of_ble_eq_true rfl) ⟨Nat.le_refl 0, Nat.le_refl 0⟩ dX6_back_3 (fun H locs hH hS => ?_)
  refine lv_if_ne (tgt := 11) X.hx X.hb dX6_back_6 (by decide) (fun c11 => ?_) (fun c11 => ?_)
  · have hf := it_n hf c11
    refine lv_aload_n X.hx X.hb dX6_back_11 rfl (lv_at hl 0 rfl) ?_
    refine gfX6_35 X hH ho dX6_back_12 ?_
    refine lv_iload_n X.hx X.hb dX6_back_15 rfl (lv_at hl 1 rfl) ?_
    obtain ⟨hg, hf⟩ := gd_e hf
    refine g_zald X hH ⟨_, ho, rfl⟩ hg dX6_back_16 ?_
    refine lv_if_ne (tgt := 23) X.hx X.hb dX6_back_17 (by decide) (fun c12 => ?_) (fun c12 => ?_)
    · have hf := it_n hf c12
      refine lv_iconst (v := 0) X.hx X.hb dX6_back_23 (by decide) ?_
      refine lv_istore_n (lv' := [(2, .int (0 : Int32)), (0, .ref (gad G o 0)), (1, .int x1)]) X.hx X.hb dX6_back_24 rfl hl (by decide) rfl (fun ls hl => ?_)
      exact bX6_back_25 X  ho  _ _ _ _  hf _ _ _ hH hS (lv_sub hl [1, 2, 0] rfl)
    · have hf := it_p hf c12
      refine lv_bipush (v := -2) X.hx X.hb dX6_back_20 (by decide) ?_
      have e := so2 hf
      rw [e.2] at hH
      exact g_iret X hH hS rfl e.1 dX6_back_22
  · have hf := it_p hf c11
    refine lv_iconst (v := -1) X.hx X.hb dX6_back_9 (by decide) ?_
    have e := so2 hf
    rw [e.2] at hH
    exact g_iret X hH hS rfl e.1 dX6_back_10
set_option maxRecDepth 20000 in
set_option maxHeartbeats 4000000 in
theorem kX6_count (l : Launch) {G : gG} {σ : Mem} {r : Int32} {o : Nat} {x1 : Int32} (ho : gsh G o = some 6)  (hf : fX6_count σ o x1 = some r) : CM l yX6_count cX6_count 2 (some .int) 0 0 G σ [.ref (gad G o 0), .int x1] (some (.int r)) σ := by
  refine CM.of (by decide) (Nat.le_of_ble_eq_true rfl) (fun p e s m below meth c ls X hH hl => ?_)
  have X : gX p s m _ meth c yX6_count cX6_count 2 (some .int) RX6 G := X
  have hS : va_S (gAA G) s.heap s.heap [] := va_S.rf
  have hl : lv_has ls 2 [(0, .ref (gad G o 0)), (1, .int x1)] := hl
  rw [fX6_count.eq_1] at hf
  refine lv_iload_n X.hx X.hb dX6_count_0 rfl (lv_at hl 1 rfl) ?_
  by_cases c9 : x1 = (0 : Int32)
  · have hf := it_p hf c9
    refine lv_tableIn (tgt := 48) X.hx X.hb dX6_count_1 (by rw [c9]; decide) (by rw [c9]; decide) (off := 47) (by rw [c9]; decide) (by decide) ?_
    refine lv_aload_n X.hx X.hb dX6_count_48 rfl (lv_at hl 0 rfl) ?_
    refine gfX6_7 X hH ho dX6_count_49 ?_
    exact g_iret X hH hS rfl (so1 hf) dX6_count_52
  · have hf := it_n hf c9
    by_cases c10 : x1 = (1 : Int32)
    · have hf := it_p hf c10
      refine lv_tableIn (tgt := 53) X.hx X.hb dX6_count_1 (by rw [c10]; decide) (by rw [c10]; decide) (off := 52) (by rw [c10]; decide) (by decide) ?_
      refine lv_aload_n X.hx X.hb dX6_count_53 rfl (lv_at hl 0 rfl) ?_
      refine gfX6_13 X hH ho dX6_count_54 ?_
      exact g_iret X hH hS rfl (so1 hf) dX6_count_57
    · have hf := it_n hf c10
      by_cases c11 : x1 = (2 : Int32)
      · have hf := it_p hf c11
        refine lv_tableIn (tgt := 58) X.hx X.hb dX6_count_1 (by rw [c11]; decide) (by rw [c11]; decide) (off := 57) (by rw [c11]; decide) (by decide) ?_
        refine lv_aload_n X.hx X.hb dX6_count_58 rfl (lv_at hl 0 rfl) ?_
        refine gfX6_16 X hH ho dX6_count_59 ?_
        exact g_iret X hH hS rfl (so1 hf) dX6_count_62
      · have hf := it_n hf c11
        by_cases c12 : x1 = (3 : Int32)
        · have hf := it_p hf c12
          refine lv_tableIn (tgt := 63) X.hx X.hb dX6_count_1 (by rw [c12]; decide) (by rw [c12]; decide) (off := 62) (by rw [c12]; decide) (by decide) ?_
          refine lv_aload_n X.hx X.hb dX6_count_63 rfl (lv_at hl 0 rfl) ?_
          refine gfX6_82 X hH ho dX6_count_64 ?_
          exact g_iret X hH hS rfl (so1 hf) dX6_count_67
        · have hf := it_n hf c12
          by_cases c13 : x1 = (4 : Int32)
          · have hf := it_p hf c13
            refine lv_tableIn (tgt := 68) X.hx X.hb dX6_count_1 (by rw [c13]; decide) (by rw [c13]; decide) (off := 67) (by rw [c13]; decide) (by decide) ?_
            refine lv_aload_n X.hx X.hb dX6_count_68 rfl (lv_at hl 0 rfl) ?_
            refine gfX6_89 X hH ho dX6_count_69 ?_
            exact g_iret X hH hS rfl (so1 hf) dX6_count_72
          · have hf := it_n hf c13
            by_cases c14 : x1 = (5 : Int32)
            · have hf := it_p hf c14
              refine lv_tableIn (tgt := 73) X.hx X.hb dX6_count_1 (by rw [c14]; decide) (by rw [c14]; decide) (off := 72) (by rw [c14]; decide) (by decide) ?_
              refine lv_aload_n X.hx X.hb dX6_count_73 rfl (lv_at hl 0 rfl) ?_
              refine gfX6_26 X hH ho dX6_count_74 ?_
              refine lv_bipush (v := 20) X.hx X.hb dX6_count_77 (by decide) ?_
              obtain ⟨hg, hf⟩ := gd_e hf
              refine g_iald X hH ⟨_, ho, rfl⟩ hg dX6_count_79 ?_
              exact g_iret X hH hS rfl (so1 hf) dX6_count_80
            · have hf := it_n hf c14
              by_cases c15 : x1 = (6 : Int32)
              · have hf := it_p hf c15
                refine lv_tableIn (tgt := 81) X.hx X.hb dX6_count_1 (by rw [c15]; decide) (by rw [c15]; decide) (off := 80) (by rw [c15]; decide) (by decide) ?_
                refine lv_aload_n X.hx X.hb dX6_count_81 rfl (lv_at hl 0 rfl) ?_
                refine gfX6_155 X hH ho dX6_count_82 ?_
                exact g_iret X hH hS rfl (so1 hf) dX6_count_85
              · have hf := it_n hf c15
                by_cases c16 : x1 = (7 : Int32)
                · have hf := it_p hf c16
                  refine lv_tableIn (tgt := 86) X.hx X.hb dX6_count_1 (by rw [c16]; decide) (by rw [c16]; decide) (off := 85) (by rw [c16]; decide) (by decide) ?_
                  refine lv_aload_n X.hx X.hb dX6_count_86 rfl (lv_at hl 0 rfl) ?_
                  refine gfX6_92 X hH ho dX6_count_87 ?_
                  exact g_iret X hH hS rfl (so1 hf) dX6_count_90
                · have hf := it_n hf c16
                  refine lv_tableOut (tgt := 91) X.hx X.hb dX6_count_1 (by have := c9; have e0 := lv_neT c9 (a := 0) (by decide); have e1 := lv_neT c10 (a := 1) (by decide); have e2 := lv_neT c11 (a := 2) (by decide); have e3 := lv_neT c12 (a := 3) (by decide); have e4 := lv_neT c13 (a := 4) (by decide); have e5 := lv_neT c14 (a := 5) (by decide); have e6 := lv_neT c15 (a := 6) (by decide); have e7 := lv_neT c16 (a := 7) (by decide); omega) (by decide) ?_
                  refine lv_iconst (v := -1) X.hx X.hb dX6_count_91 (by decide) ?_
                  exact g_iret X hH hS rfl (so1 hf) dX6_count_92
set_option maxRecDepth 20000 in
set_option maxHeartbeats 4000000 in
theorem kX6_trace (l : Launch) {G : gG} {σ : Mem} {r : Int64} {o : Nat} (ho : gsh G o = some 6)  (hf : fX6_trace σ o = some r) : CM l yX6_trace cX6_trace 1 (some .long) 0 0 G σ [.ref (gad G o 0)] (some (.long r)) σ := by
  refine CM.of (by decide) (Nat.le_of_ble_eq_true rfl) (fun p e s m below meth c ls X hH hl => ?_)
  have X : gX p s m _ meth c yX6_trace cX6_trace 1 (some .long) RX6 G := X
  have hS : va_S (gAA G) s.heap s.heap [] := va_S.rf
  have hl : lv_has ls 1 [(0, .ref (gad G o 0))] := hl
  rw [fX6_trace.eq_1] at hf
  refine lv_aload_n X.hx X.hb dX6_trace_0 rfl (lv_at hl 0 rfl) ?_
  refine gfX6_263 X hH ho dX6_trace_1 ?_
  exact g_lret X hH hS rfl (so1 hf) dX6_trace_4
