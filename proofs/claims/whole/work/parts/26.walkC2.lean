set_option maxRecDepth 20000 in
set_option maxHeartbeats 4000000 in
theorem kX5_rate (l : Launch) {G : gG} {σ : Mem} {r : Int32} {σ' : Mem} {o : Nat} {x1 : Int32} {x2 : Int32} (ho : gsh G o = some 5)  (hf : fX5_rate σ o x1 x2 = some (r, σ')) : CM l yX5_rate cX5_rate 3 (some .int) 4 83 G σ [.ref (gad G o 0), .int x1, .int x2] (some (.int r)) σ' := by
  refine CM.of (by decide) (Nat.le_of_ble_eq_true rfl) (fun p e s m below meth c ls X hH hl => ?_)
  have X : gX p s m _ meth c yX5_rate cX5_rate 3 (some .int) RX5 G := X
  have hS : va_S (gAA G) s.heap s.heap [] := va_S.rf
  have hl : lv_has ls 3 [(0, .ref (gad G o 0)), (1, .int x1), (2, .int x2)] := hl
  rw [fX5_rate.eq_1] at hf
  refine lv_aload_n X.hx X.hb dX5_rate_0 rfl (lv_at hl 0 rfl) ?_
  refine gfX5_19 X hH ho dX5_rate_1 ?_
  have h22 : gsh G (mP σ o 1) = some 1 := hH.2.2.1 _ _ _ _ ho rfl
  refine lv_iload_n X.hx X.hb dX5_rate_4 rfl (lv_at hl 2 rfl) ?_
  obtain ⟨r23, hr, hf⟩ := bd_e hf
  refine g_callVI (As := [.int x2]) (rest := []) X (kX1_hasClerk l h22 hr) (C := RX1) (T := TX1) (N := 11) (ci := 1) rfl h22 ⟨cdX1_hasClerk, mlX5_111, imX1_hasClerk, seX1_hasClerk, iniX1⟩ hvX1_hasClerk ⟨Nat.le_of_ble_eq_true rfl, Nat.le_of_ble_eq_true rfl⟩ hH hS hl rfl rfl (Nat.le_of_ble_eq_true rfl) ⟨Nat.le_refl 0, Nat.le_refl 0⟩ dX5_rate_5 (fun H locs hH hS => ?_)
  refine lv_if_ne (tgt := 14) X.hx X.hb dX5_rate_8 (by decide) (fun c24 => ?_) (fun c24 => ?_)
  · have hf := it_n hf c24
    refine lv_iload_n X.hx X.hb dX5_rate_14 rfl (lv_at hl 1 rfl) ?_
    by_cases c25 : x1 = (0 : Int32)
    · have hf := it_p hf c25
      refine lv_tableIn (tgt := 52) X.hx X.hb dX5_rate_15 (by rw [c25]; decide) (by rw [c25]; decide) (off := 37) (by rw [c25]; decide) (by decide) ?_
      refine lv_aload_n X.hx X.hb dX5_rate_52 rfl (lv_at hl 0 rfl) ?_
      refine lv_iload_n X.hx X.hb dX5_rate_53 rfl (lv_at hl 2 rfl) ?_
      obtain ⟨r26, σ27, hr, hf⟩ := bd2_e hf
      refine g_callVI (As := [.int x2]) (rest := []) X (kX5_asClerk l ho hr) (C := RX5) (T := TX5) (N := 14) (ci := 5) rfl ho ⟨cdX5_asClerk, mlX5_252, imX5_asClerk, seX5_asClerk, iniX5⟩ hvX5_asClerk ⟨Nat.le_of_ble_eq_true rfl, Nat.le_of_ble_eq_true rfl⟩ hH hS hl rfl rfl (Nat.le_of_ble_eq_true rfl) ⟨Nat.le_refl 0, Nat.le_refl 0⟩ dX5_rate_54 (fun H locs hH hS => ?_)
      have e := so2 hf
      rw [e.2] at hH
      exact g_iret X hH hS rfl e.1 dX5_rate_57
    · have hf := it_n hf c25
      by_cases c28 : x1 = (1 : Int32)
      · have hf := it_p hf c28
        refine lv_tableIn (tgt := 58) X.hx X.hb dX5_rate_15 (by rw [c28]; decide) (by rw [c28]; decide) (off := 43) (by rw [c28]; decide) (by decide) ?_
        refine lv_aload_n X.hx X.hb dX5_rate_58 rfl (lv_at hl 0 rfl) ?_
        refine lv_iload_n X.hx X.hb dX5_rate_59 rfl (lv_at hl 2 rfl) ?_
        obtain ⟨r29, σ30, hr, hf⟩ := bd2_e hf
        refine g_callVI (As := [.int x2]) (rest := []) X (kX5_asNun l ho hr) (C := RX5) (T := TX5) (N := 14) (ci := 5) rfl ho ⟨cdX5_asNun, mlX5_255, imX5_asNun, seX5_asNun, iniX5⟩ hvX5_asNun ⟨Nat.le_of_ble_eq_true rfl, Nat.le_of_ble_eq_true rfl⟩ hH hS hl rfl rfl (Nat.le_of_ble_eq_true rfl) ⟨Nat.le_refl 0, Nat.le_refl 0⟩ dX5_rate_60 (fun H locs hH hS => ?_)
        have e := so2 hf
        rw [e.2] at hH
        exact g_iret X hH hS rfl e.1 dX5_rate_63
      · have hf := it_n hf c28
        by_cases c31 : x1 = (2 : Int32)
        · have hf := it_p hf c31
          refine lv_tableIn (tgt := 64) X.hx X.hb dX5_rate_15 (by rw [c31]; decide) (by rw [c31]; decide) (off := 49) (by rw [c31]; decide) (by decide) ?_
          refine lv_aload_n X.hx X.hb dX5_rate_64 rfl (lv_at hl 0 rfl) ?_
          refine lv_iload_n X.hx X.hb dX5_rate_65 rfl (lv_at hl 2 rfl) ?_
          obtain ⟨r32, σ33, hr, hf⟩ := bd2_e hf
          refine g_callVI (As := [.int x2]) (rest := []) X (kX5_asNephew l ho hr) (C := RX5) (T := TX5) (N := 14) (ci := 5) rfl ho ⟨cdX5_asNephew, mlX5_258, imX5_asNephew, seX5_asNephew, iniX5⟩ hvX5_asNephew ⟨Nat.le_of_ble_eq_true rfl, Nat.le_of_ble_eq_true rfl⟩ hH hS hl rfl rfl (Nat.le_of_ble_eq_true rfl) ⟨Nat.le_refl 0, Nat.le_refl 0⟩ dX5_rate_66 (fun H locs hH hS => ?_)
          have e := so2 hf
          rw [e.2] at hH
          exact g_iret X hH hS rfl e.1 dX5_rate_69
        · have hf := it_n hf c31
          by_cases c34 : x1 = (3 : Int32)
          · have hf := it_p hf c34
            refine lv_tableIn (tgt := 70) X.hx X.hb dX5_rate_15 (by rw [c34]; decide) (by rw [c34]; decide) (off := 55) (by rw [c34]; decide) (by decide) ?_
            refine lv_aload_n X.hx X.hb dX5_rate_70 rfl (lv_at hl 0 rfl) ?_
            refine lv_iload_n X.hx X.hb dX5_rate_71 rfl (lv_at hl 2 rfl) ?_
            obtain ⟨r35, σ36, hr, hf⟩ := bd2_e hf
            refine g_callVI (As := [.int x2]) (rest := []) X (kX5_asAbbess l ho hr) (C := RX5) (T := TX5) (N := 14) (ci := 5) rfl ho ⟨cdX5_asAbbess, mlX5_261, imX5_asAbbess, seX5_asAbbess, iniX5⟩ hvX5_asAbbess ⟨Nat.le_of_ble_eq_true rfl, Nat.le_of_ble_eq_true rfl⟩ hH hS hl rfl rfl (Nat.le_of_ble_eq_true rfl) ⟨Nat.le_refl 0, Nat.le_refl 0⟩ dX5_rate_72 (fun H locs hH hS => ?_)
            have e := so2 hf
            rw [e.2] at hH
            exact g_iret X hH hS rfl e.1 dX5_rate_75
          · have hf := it_n hf c34
            by_cases c37 : x1 = (4 : Int32)
            · have hf := it_p hf c37
              refine lv_tableIn (tgt := 76) X.hx X.hb dX5_rate_15 (by rw [c37]; decide) (by rw [c37]; decide) (off := 61) (by rw [c37]; decide) (by decide) ?_
              refine lv_aload_n X.hx X.hb dX5_rate_76 rfl (lv_at hl 0 rfl) ?_
              refine lv_iload_n X.hx X.hb dX5_rate_77 rfl (lv_at hl 2 rfl) ?_
              obtain ⟨r38, σ39, hr, hf⟩ := bd2_e hf
              refine g_callVI (As := [.int x2]) (rest := []) X (kX5_asForger l ho hr) (C := RX5) (T := TX5) (N := 14) (ci := 5) rfl ho ⟨cdX5_asForger, mlX5_264, imX5_asForger, seX5_asForger, iniX5⟩ hvX5_asForger ⟨Nat.le_of_ble_eq_true rfl, Nat.le_of_ble_eq_true rfl⟩ hH hS hl rfl rfl (Nat.le_of_ble_eq_true rfl) ⟨Nat.le_refl 0, Nat.le_refl 0⟩ dX5_rate_78 (fun H locs hH hS => ?_)
              have e := so2 hf
              rw [e.2] at hH
              exact g_iret X hH hS rfl e.1 dX5_rate_81
            · have hf := it_n hf c37
              by_cases c40 : x1 = (5 : Int32)
              · have hf := it_p hf c40
                refine lv_tableIn (tgt := 82) X.hx X.hb dX5_rate_15 (by rw [c40]; decide) (by rw [c40]; decide) (off := 67) (by rw [c40]; decide) (by decide) ?_
                refine lv_aload_n X.hx X.hb dX5_rate_82 rfl (lv_at hl 0 rfl) ?_
                refine lv_iload_n X.hx X.hb dX5_rate_83 rfl (lv_at hl 2 rfl) ?_
                obtain ⟨r41, σ42, hr, hf⟩ := bd2_e hf
                refine g_callVI (As := [.int x2]) (rest := []) X (kX5_asGull l ho hr) (C := RX5) (T := TX5) (N := 14) (ci := 5) rfl ho ⟨cdX5_asGull, mlX5_267, imX5_asGull, seX5_asGull, iniX5⟩ hvX5_asGull ⟨Nat.le_of_ble_eq_true rfl, Nat.le_of_ble_eq_true rfl⟩ hH hS hl rfl rfl (Nat.le_of_ble_eq_true rfl) ⟨Nat.le_refl 0, Nat.le_refl 0⟩ dX5_rate_84 (fun H locs hH hS => ?_)
                have e := so2 hf
                rw [e.2] at hH
                exact g_iret X hH hS rfl e.1 dX5_rate_87
              · have hf := it_n hf c40
                refine lv_tableOut (tgt := 88) X.hx X.hb dX5_rate_15 (by have := c25; have e0 := lv_neT c25 (a := 0) (by decide); have e1 := lv_neT c28 (a := 1) (by decide); have e2 := lv_neT c31 (a := 2) (by decide); have e3 := lv_neT c34 (a := 3) (by decide); have e4 := lv_neT c37 (a := 4) (by decide); have e5 := lv_neT c40 (a := 5) (by decide); omega) (by decide) ?_
                refine lv_ldc X.hx X.hb X.hown (X.w kcX5_251) dX5_rate_88 ?_
                have e := so2 hf
                rw [e.2] at hH
                exact g_iret X hH hS rfl e.1 dX5_rate_90
  · have hf := it_p hf c24
    refine lv_ldc X.hx X.hb X.hown (X.w kcX5_251) dX5_rate_11 ?_
    have e := so2 hf
    rw [e.2] at hH
    exact g_iret X hH hS rfl e.1 dX5_rate_13
set_option maxRecDepth 20000 in
set_option maxHeartbeats 4000000 in
theorem kX5_keep (l : Launch) {G : gG} {σ : Mem} {r : Int32} {σ' : Mem} {o : Nat} {x1 : Int32} (ho : gsh G o = some 5)  (hf : fX5_keep σ o x1 = some (r, σ')) : CM l yX5_keep cX5_keep 2 (some .int) 1 22 G σ [.ref (gad G o 0), .int x1] (some (.int r)) σ' := by
  refine CM.of (by decide) (Nat.le_of_ble_eq_true rfl) (fun p e s m below meth c ls X hH hl => ?_)
  have X : gX p s m _ meth c yX5_keep cX5_keep 2 (some .int) RX5 G := X
  have hS : va_S (gAA G) s.heap s.heap [] := va_S.rf
  have hl : lv_has ls 2 [(0, .ref (gad G o 0)), (1, .int x1)] := hl
  rw [fX5_keep.eq_1] at hf
  refine lv_iload_n X.hx X.hb dX5_keep_0 rfl (lv_at hl 1 rfl) ?_
  refine lv_if_lt (tgt := 9) X.hx X.hb dX5_keep_1 (by decide) (fun c8 => ?_) (fun c8 => ?_)
  · have hf := it_p hf c8
    refine lv_iconst (v := -1) X.hx X.hb dX5_keep_9 (by decide) ?_
    have e := so2 hf
    rw [e.2] at hH
    exact g_iret X hH hS rfl e.1 dX5_keep_10
  · have hf := it_n hf c8
    refine lv_iload_n X.hx X.hb dX5_keep_4 rfl (lv_at hl 1 rfl) ?_
    refine lv_iconst (v := 2) X.hx X.hb dX5_keep_5 (by decide) ?_
    refine lv_icmp_lt (tgt := 11) X.hx X.hb dX5_keep_6 (by decide) (fun c9 => ?_) (fun c9 => ?_)
    · have hf := it_p hf c9
      refine lv_aload_n X.hx X.hb dX5_keep_11 rfl (lv_at hl 0 rfl) ?_
      refine gfX5_40 X hH ho dX5_keep_12 ?_
      refine lv_iload_n X.hx X.hb dX5_keep_15 rfl (lv_at hl 1 rfl) ?_
      obtain ⟨hg, hf⟩ := gd_e hf
      refine g_aald X hH ⟨_, ho, rfl⟩ hg dX5_keep_16 (fun h10 => ?_)
      refine lv_aload_n X.hx X.hb dX5_keep_17 rfl (lv_at hl 0 rfl) ?_
      refine gfX5_29 X hH ho dX5_keep_18 ?_
      have h11 : gsh G (mP σ o 3) = some 2 := hH.2.2.1 _ _ _ _ ho rfl
      obtain ⟨σ12, hr, hf⟩ := bd_e hf
      refine g_callVV (As := [.ref (gad G (mP σ o 3) 0)]) (rest := []) X (kX2_becomeAs l h10 h11 hr) (C := RX2) (T := TX2) (N := 6) (ci := 2) rfl h10 ⟨cdX2_becomeAs, mlX5_270, imX2_becomeAs, seX2_becomeAs, iniX2⟩ hvX2_becomeAs ⟨Nat.le_of_ble_eq_true rfl, Nat.le_of_ble_eq_true rfl⟩ hH hS hl rfl rfl (Nat.le_of_ble_eq_true rfl) ⟨Nat.le_refl 0, Nat.le_refl 0⟩ dX5_keep_21 (fun H locs hH hS => ?_)
      refine lv_aload_n X.hx X.hb dX5_keep_24 rfl (lv_at hl 0 rfl) ?_
      refine lv_dup X.hx X.hb dX5_keep_25 rfl ?_
      refine gfX5_44 X hH ho dX5_keep_26 ?_
      refine lv_iconst (v := 1) X.hx X.hb dX5_keep_29 (by decide) ?_
      refine lv_iload_n X.hx X.hb dX5_keep_30 rfl (lv_at hl 1 rfl) ?_
      refine lv_ishl X.hx X.hb dX5_keep_31 ?_
      refine lv_ior X.hx X.hb dX5_keep_32 ?_
      refine pfX5_44 X hH hS ho  dX5_keep_33 (fun H locs hH hS => ?_)
      obtain ⟨σ13, he, hf⟩ := stp_e hf
      rw [← he] at hH
      clear he
      refine lv_aload_n X.hx X.hb dX5_keep_36 rfl (lv_at hl 0 rfl) ?_
      refine gfX5_29 X hH ho dX5_keep_37 ?_
      have h14 : gsh G (mP σ13 o 3) = some 2 := hH.2.2.1 _ _ _ _ ho rfl
      refine gfX5_123 X hH h14 dX5_keep_40 ?_
      have e := so2 hf
      rw [e.2] at hH
      exact g_iret X hH hS rfl e.1 dX5_keep_43
    · have hf := it_n hf c9
      refine lv_iconst (v := -1) X.hx X.hb dX5_keep_9 (by decide) ?_
      have e := so2 hf
      rw [e.2] at hH
      exact g_iret X hH hS rfl e.1 dX5_keep_10
set_option maxRecDepth 20000 in
set_option maxHeartbeats 4000000 in
theorem kX5_back (l : Launch) {G : gG} {σ : Mem} {r : Int32} {σ' : Mem} {o : Nat} {x1 : Int32} (ho : gsh G o = some 5)  (hf : fX5_back σ o x1 = some (r, σ')) : CM l yX5_back cX5_back 2 (some .int) 1 22 G σ [.ref (gad G o 0), .int x1] (some (.int r)) σ' := by
  refine CM.of (by decide) (Nat.le_of_ble_eq_true rfl) (fun p e s m below meth c ls X hH hl => ?_)
  have X : gX p s m _ meth c yX5_back cX5_back 2 (some .int) RX5 G := X
  have hS : va_S (gAA G) s.heap s.heap [] := va_S.rf
  have hl : lv_has ls 2 [(0, .ref (gad G o 0)), (1, .int x1)] := hl
  rw [fX5_back.eq_1] at hf
  refine lv_iload_n X.hx X.hb dX5_back_0 rfl (lv_at hl 1 rfl) ?_
  refine lv_if_lt (tgt := 9) X.hx X.hb dX5_back_1 (by decide) (fun c10 => ?_) (fun c10 => ?_)
  · have hf := it_p hf c10
    refine lv_iconst (v := -1) X.hx X.hb dX5_back_9 (by decide) ?_
    have e := so2 hf
    rw [e.2] at hH
    exact g_iret X hH hS rfl e.1 dX5_back_10
  · have hf := it_n hf c10
    refine lv_iload_n X.hx X.hb dX5_back_4 rfl (lv_at hl 1 rfl) ?_
    refine lv_iconst (v := 2) X.hx X.hb dX5_back_5 (by decide) ?_
    refine lv_icmp_lt (tgt := 11) X.hx X.hb dX5_back_6 (by decide) (fun c11 => ?_) (fun c11 => ?_)
    · have hf := it_p hf c11
      refine lv_aload_n X.hx X.hb dX5_back_11 rfl (lv_at hl 0 rfl) ?_
      refine gfX5_44 X hH ho dX5_back_12 ?_
      refine lv_iload_n X.hx X.hb dX5_back_15 rfl (lv_at hl 1 rfl) ?_
      refine lv_ishr X.hx X.hb dX5_back_16 ?_
      refine lv_iconst (v := 1) X.hx X.hb dX5_back_17 (by decide) ?_
      refine lv_iand X.hx X.hb dX5_back_18 ?_
      refine lv_if_ne (tgt := 25) X.hx X.hb dX5_back_19 (by decide) (fun c12 => ?_) (fun c12 => ?_)
      · have hf := it_n hf c12
        refine lv_aload_n X.hx X.hb dX5_back_25 rfl (lv_at hl 0 rfl) ?_
        refine gfX5_29 X hH ho dX5_back_26 ?_
        have h13 : gsh G (mP σ o 3) = some 2 := hH.2.2.1 _ _ _ _ ho rfl
        refine lv_aload_n X.hx X.hb dX5_back_29 rfl (lv_at hl 0 rfl) ?_
        refine gfX5_40 X hH ho dX5_back_30 ?_
        refine lv_iload_n X.hx X.hb dX5_back_33 rfl (lv_at hl 1 rfl) ?_
        obtain ⟨hg, hf⟩ := gd_e hf
        refine g_aald X hH ⟨_, ho, rfl⟩ hg dX5_back_34 (fun h14 => ?_)
        obtain ⟨σ15, hr, hf⟩ := bd_e hf
        refine g_callVV (As := [.ref (gad G (mE σ o 5 x1.toNatClampNeg) 0)]) (rest := []) X (kX2_becomeAs l h13 h14 hr) (C := RX2) (T := TX2) (N := 6) (ci := 2) rfl h13 ⟨cdX2_becomeAs, mlX5_270, imX2_becomeAs, seX2_becomeAs, iniX2⟩ hvX2_becomeAs ⟨Nat.le_of_ble_eq_true rfl, Nat.le_of_ble_eq_true rfl⟩ hH hS hl rfl rfl (Nat.le_of_ble_eq_true rfl) ⟨Nat.le_refl 0, Nat.le_refl 0⟩ dX5_back_35 (fun H locs hH hS => ?_)
        refine lv_aload_n X.hx X.hb dX5_back_38 rfl (lv_at hl 0 rfl) ?_
        refine gfX5_36 X hH ho dX5_back_39 ?_
        have h16 : gsh G (mP σ15 o 4) = some 0 := hH.2.2.1 _ _ _ _ ho rfl
        refine lv_iconst (v := 0) X.hx X.hb dX5_back_42 (by decide) ?_
        refine pfX5_89 X hH hS h16  dX5_back_43 (fun H locs hH hS => ?_)
        obtain ⟨σ17, he, hf⟩ := stp_e hf
        rw [← he] at hH
        clear he
        refine lv_aload_n X.hx X.hb dX5_back_46 rfl (lv_at hl 0 rfl) ?_
        refine gfX5_29 X hH ho dX5_back_47 ?_
        have h18 : gsh G (mP σ17 o 3) = some 2 := hH.2.2.1 _ _ _ _ ho rfl
        refine gfX5_123 X hH h18 dX5_back_50 ?_
        have e := so2 hf
        rw [e.2] at hH
        exact g_iret X hH hS rfl e.1 dX5_back_53
      · have hf := it_p hf c12
        refine lv_bipush (v := -2) X.hx X.hb dX5_back_22 (by decide) ?_
        have e := so2 hf
        rw [e.2] at hH
        exact g_iret X hH hS rfl e.1 dX5_back_24
    · have hf := it_n hf c11
      refine lv_iconst (v := -1) X.hx X.hb dX5_back_9 (by decide) ?_
      have e := so2 hf
      rw [e.2] at hH
      exact g_iret X hH hS rfl e.1 dX5_back_10
set_option maxRecDepth 20000 in
set_option maxHeartbeats 4000000 in
theorem kX5_count (l : Launch) {G : gG} {σ : Mem} {r : Int32} {o : Nat} {x1 : Int32} (ho : gsh G o = some 5)  (hf : fX5_count σ o x1 = some r) : CM l yX5_count cX5_count 2 (some .int) 1 22 G σ [.ref (gad G o 0), .int x1] (some (.int r)) σ := by
  refine CM.of (by decide) (Nat.le_of_ble_eq_true rfl) (fun p e s m below meth c ls X hH hl => ?_)
  have X : gX p s m _ meth c yX5_count cX5_count 2 (some .int) RX5 G := X
  have hS : va_S (gAA G) s.heap s.heap [] := va_S.rf
  have hl : lv_has ls 2 [(0, .ref (gad G o 0)), (1, .int x1)] := hl
  rw [fX5_count.eq_1] at hf
  refine lv_iload_n X.hx X.hb dX5_count_0 rfl (lv_at hl 1 rfl) ?_
  by_cases c17 : x1 = (0 : Int32)
  · have hf := it_p hf c17
    refine lv_tableIn (tgt := 48) X.hx X.hb dX5_count_1 (by rw [c17]; decide) (by rw [c17]; decide) (off := 47) (by rw [c17]; decide) (by decide) ?_
    refine lv_aload_n X.hx X.hb dX5_count_48 rfl (lv_at hl 0 rfl) ?_
    refine gfX5_19 X hH ho dX5_count_49 ?_
    have h18 : gsh G (mP σ o 1) = some 1 := hH.2.2.1 _ _ _ _ ho rfl
    refine gfX5_129 X hH h18 dX5_count_52 ?_
    exact g_iret X hH hS rfl (so1 hf) dX5_count_55
  · have hf := it_n hf c17
    by_cases c19 : x1 = (1 : Int32)
    · have hf := it_p hf c19
      refine lv_tableIn (tgt := 56) X.hx X.hb dX5_count_1 (by rw [c19]; decide) (by rw [c19]; decide) (off := 55) (by rw [c19]; decide) (by decide) ?_
      refine lv_aload_n X.hx X.hb dX5_count_56 rfl (lv_at hl 0 rfl) ?_
      refine gfX5_19 X hH ho dX5_count_57 ?_
      have h20 : gsh G (mP σ o 1) = some 1 := hH.2.2.1 _ _ _ _ ho rfl
      refine gfX5_273 X hH h20 dX5_count_60 ?_
      exact g_iret X hH hS rfl (so1 hf) dX5_count_63
    · have hf := it_n hf c19
      by_cases c21 : x1 = (2 : Int32)
      · have hf := it_p hf c21
        refine lv_tableIn (tgt := 64) X.hx X.hb dX5_count_1 (by rw [c21]; decide) (by rw [c21]; decide) (off := 63) (by rw [c21]; decide) (by decide) ?_
        refine lv_aload_n X.hx X.hb dX5_count_64 rfl (lv_at hl 0 rfl) ?_
        refine gfX5_19 X hH ho dX5_count_65 ?_
        have h22 : gsh G (mP σ o 1) = some 1 := hH.2.2.1 _ _ _ _ ho rfl
        refine gfX5_276 X hH h22 dX5_count_68 ?_
        exact g_iret X hH hS rfl (so1 hf) dX5_count_71
      · have hf := it_n hf c21
        by_cases c23 : x1 = (3 : Int32)
        · have hf := it_p hf c23
          refine lv_tableIn (tgt := 72) X.hx X.hb dX5_count_1 (by rw [c23]; decide) (by rw [c23]; decide) (off := 71) (by rw [c23]; decide) (by decide) ?_
          refine lv_aload_n X.hx X.hb dX5_count_72 rfl (lv_at hl 0 rfl) ?_
          refine gfX5_19 X hH ho dX5_count_73 ?_
          have h24 : gsh G (mP σ o 1) = some 1 := hH.2.2.1 _ _ _ _ ho rfl
          refine gfX5_202 X hH h24 dX5_count_76 ?_
          exact g_iret X hH hS rfl (so1 hf) dX5_count_79
        · have hf := it_n hf c23
          by_cases c25 : x1 = (4 : Int32)
          · have hf := it_p hf c25
            refine lv_tableIn (tgt := 80) X.hx X.hb dX5_count_1 (by rw [c25]; decide) (by rw [c25]; decide) (off := 79) (by rw [c25]; decide) (by decide) ?_
            refine lv_aload_n X.hx X.hb dX5_count_80 rfl (lv_at hl 0 rfl) ?_
            refine gfX5_19 X hH ho dX5_count_81 ?_
            have h26 : gsh G (mP σ o 1) = some 1 := hH.2.2.1 _ _ _ _ ho rfl
            refine gfX5_245 X hH h26 dX5_count_84 ?_
            exact g_iret X hH hS rfl (so1 hf) dX5_count_87
          · have hf := it_n hf c25
            by_cases c27 : x1 = (5 : Int32)
            · have hf := it_p hf c27
              refine lv_tableIn (tgt := 88) X.hx X.hb dX5_count_1 (by rw [c27]; decide) (by rw [c27]; decide) (off := 87) (by rw [c27]; decide) (by decide) ?_
              refine lv_aload_n X.hx X.hb dX5_count_88 rfl (lv_at hl 0 rfl) ?_
              refine gfX5_29 X hH ho dX5_count_89 ?_
              have h28 : gsh G (mP σ o 3) = some 2 := hH.2.2.1 _ _ _ _ ho rfl
              refine gfX5_214 X hH h28 dX5_count_92 ?_
              obtain ⟨r29, hr, hf⟩ := bd_e hf
              refine g_callSI (As := [.int (mI σ (mP σ o 3) 3)]) (rest := []) X (kX5_lengthOf l  hr) ⟨cdX5_lengthOf, mlX5_217, stX5_lengthOf, iniX5⟩ hsX5_lengthOf ⟨Nat.le_of_ble_eq_true rfl, Nat.le_of_ble_eq_true rfl⟩ hH hS hl rfl rfl (Nat.le_of_ble_eq_true rfl) ⟨Nat.le_refl 0, Nat.le_refl 0⟩ dX5_count_95 (fun H locs hH hS => ?_)
              exact g_iret X hH hS rfl (so1 hf) dX5_count_98
            · have hf := it_n hf c27
              by_cases c30 : x1 = (6 : Int32)
              · have hf := it_p hf c30
                refine lv_tableIn (tgt := 99) X.hx X.hb dX5_count_1 (by rw [c30]; decide) (by rw [c30]; decide) (off := 98) (by rw [c30]; decide) (by decide) ?_
                refine lv_aload_n X.hx X.hb dX5_count_99 rfl (lv_at hl 0 rfl) ?_
                refine gfX5_62 X hH ho dX5_count_100 ?_
                exact g_iret X hH hS rfl (so1 hf) dX5_count_103
              · have hf := it_n hf c30
                by_cases c31 : x1 = (7 : Int32)
                · have hf := it_p hf c31
                  refine lv_tableIn (tgt := 104) X.hx X.hb dX5_count_1 (by rw [c31]; decide) (by rw [c31]; decide) (off := 103) (by rw [c31]; decide) (by decide) ?_
                  refine lv_aload_n X.hx X.hb dX5_count_104 rfl (lv_at hl 0 rfl) ?_
                  refine gfX5_10 X hH ho dX5_count_105 ?_
                  have h32 : gsh G (mP σ o 0) = some 4 := hH.2.2.1 _ _ _ _ ho rfl
                  refine gfX5_79 X hH h32 dX5_count_108 ?_
                  exact g_iret X hH hS rfl (so1 hf) dX5_count_111
                · have hf := it_n hf c31
                  refine lv_tableOut (tgt := 112) X.hx X.hb dX5_count_1 (by have := c17; have e0 := lv_neT c17 (a := 0) (by decide); have e1 := lv_neT c19 (a := 1) (by decide); have e2 := lv_neT c21 (a := 2) (by decide); have e3 := lv_neT c23 (a := 3) (by decide); have e4 := lv_neT c25 (a := 4) (by decide); have e5 := lv_neT c27 (a := 5) (by decide); have e6 := lv_neT c30 (a := 6) (by decide); have e7 := lv_neT c31 (a := 7) (by decide); omega) (by decide) ?_
                  refine lv_iconst (v := -1) X.hx X.hb dX5_count_112 (by decide) ?_
                  exact g_iret X hH hS rfl (so1 hf) dX5_count_113
set_option maxRecDepth 20000 in
set_option maxHeartbeats 4000000 in
theorem kX5_trace (l : Launch) {G : gG} {σ : Mem} {r : Int64} {o : Nat} (ho : gsh G o = some 5)  (hf : fX5_trace σ o = some r) : CM l yX5_trace cX5_trace 1 (some .long) 0 0 G σ [.ref (gad G o 0)] (some (.long r)) σ := by
  refine CM.of (by decide) (Nat.le_of_ble_eq_true rfl) (fun p e s m below meth c ls X hH hl => ?_)
  have X : gX p s m _ meth c yX5_trace cX5_trace 1 (some .long) RX5 G := X
  have hS : va_S (gAA G) s.heap s.heap [] := va_S.rf
  have hl : lv_has ls 1 [(0, .ref (gad G o 0))] := hl
  rw [fX5_trace.eq_1] at hf
  refine lv_aload_n X.hx X.hb dX5_trace_0 rfl (lv_at hl 0 rfl) ?_
  refine gfX5_71 X hH ho dX5_trace_1 ?_
  exact g_lret X hH hS rfl (so1 hf) dX5_trace_4
