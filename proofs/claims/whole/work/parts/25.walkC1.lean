set_option maxRecDepth 20000 in
set_option maxHeartbeats 4000000 in
theorem kX5_traveller (l : Launch) {G : gG} {σ : Mem} {r : Int32} {o : Nat} {x1 : Int32} {x2 : Int32} (ho : gsh G o = some 5)  (hf : fX5_traveller σ o x1 x2 = some r) : CM l yX5_traveller cX5_traveller 3 (some .int) 3 65 G σ [.ref (gad G o 0), .int x1, .int x2] (some (.int r)) σ := by
  refine CM.of (by decide) (Nat.le_of_ble_eq_true rfl) (fun p e s m below meth c ls X hH hl => ?_)
  have X : gX p s m _ meth c yX5_traveller cX5_traveller 3 (some .int) RX5 G := X
  have hS : va_S (gAA G) s.heap s.heap [] := va_S.rf
  have hl : lv_has ls 3 [(0, .ref (gad G o 0)), (1, .int x1), (2, .int x2)] := hl
  rw [fX5_traveller.eq_1] at hf
  refine lv_aload_n X.hx X.hb dX5_traveller_0 rfl (lv_at hl 0 rfl) ?_
  refine gfX5_19 X hH ho dX5_traveller_1 ?_
  have h18 : gsh G (mP σ o 1) = some 1 := hH.2.2.1 _ _ _ _ ho rfl
  refine lv_iload_n X.hx X.hb dX5_traveller_4 rfl (lv_at hl 1 rfl) ?_
  obtain ⟨r19, hr, hf⟩ := bd_e hf
  refine g_callVI (As := [.int x1]) (rest := []) X (kX1_hasTraveller l h18 hr) (C := RX1) (T := TX1) (N := 11) (ci := 1) rfl h18 ⟨cdX1_hasTraveller, mlX5_92, imX1_hasTraveller, seX1_hasTraveller, iniX1⟩ hvX1_hasTraveller ⟨Nat.le_of_ble_eq_true rfl, Nat.le_of_ble_eq_true rfl⟩ hH hS hl rfl rfl (Nat.le_of_ble_eq_true rfl) ⟨Nat.le_refl 0, Nat.le_refl 0⟩ dX5_traveller_5 (fun H locs hH hS => ?_)
  refine lv_if_ne (tgt := 13) X.hx X.hb dX5_traveller_8 (by decide) (fun c20 => ?_) (fun c20 => ?_)
  · have hf := it_n hf c20
    refine lv_iload_n X.hx X.hb dX5_traveller_13 rfl (lv_at hl 2 rfl) ?_
    by_cases c21 : x2 = (0 : Int32)
    · have hf := it_p hf c21
      refine lv_tableIn (tgt := 48) X.hx X.hb dX5_traveller_14 (by rw [c21]; decide) (by rw [c21]; decide) (off := 34) (by rw [c21]; decide) (by decide) ?_
      refine lv_aload_n X.hx X.hb dX5_traveller_48 rfl (lv_at hl 0 rfl) ?_
      refine gfX5_19 X hH ho dX5_traveller_49 ?_
      have h22 : gsh G (mP σ o 1) = some 1 := hH.2.2.1 _ _ _ _ ho rfl
      refine gfX5_95 X hH h22 dX5_traveller_52 ?_
      refine lv_iload_n X.hx X.hb dX5_traveller_55 rfl (lv_at hl 1 rfl) ?_
      obtain ⟨hg, hf⟩ := gd_e hf
      refine g_iald X hH ⟨_, h22, rfl⟩ hg dX5_traveller_56 ?_
      exact g_iret X hH hS rfl (so1 hf) dX5_traveller_57
    · have hf := it_n hf c21
      by_cases c23 : x2 = (1 : Int32)
      · have hf := it_p hf c23
        refine lv_tableIn (tgt := 58) X.hx X.hb dX5_traveller_14 (by rw [c23]; decide) (by rw [c23]; decide) (off := 44) (by rw [c23]; decide) (by decide) ?_
        refine lv_aload_n X.hx X.hb dX5_traveller_58 rfl (lv_at hl 0 rfl) ?_
        refine gfX5_19 X hH ho dX5_traveller_59 ?_
        have h24 : gsh G (mP σ o 1) = some 1 := hH.2.2.1 _ _ _ _ ho rfl
        refine gfX5_98 X hH h24 dX5_traveller_62 ?_
        refine lv_iload_n X.hx X.hb dX5_traveller_65 rfl (lv_at hl 1 rfl) ?_
        obtain ⟨hg, hf⟩ := gd_e hf
        refine g_iald X hH ⟨_, h24, rfl⟩ hg dX5_traveller_66 ?_
        exact g_iret X hH hS rfl (so1 hf) dX5_traveller_67
      · have hf := it_n hf c23
        by_cases c25 : x2 = (2 : Int32)
        · have hf := it_p hf c25
          refine lv_tableIn (tgt := 68) X.hx X.hb dX5_traveller_14 (by rw [c25]; decide) (by rw [c25]; decide) (off := 54) (by rw [c25]; decide) (by decide) ?_
          refine lv_aload_n X.hx X.hb dX5_traveller_68 rfl (lv_at hl 0 rfl) ?_
          refine gfX5_29 X hH ho dX5_traveller_69 ?_
          have h26 : gsh G (mP σ o 3) = some 2 := hH.2.2.1 _ _ _ _ ho rfl
          refine lv_iload_n X.hx X.hb dX5_traveller_72 rfl (lv_at hl 1 rfl) ?_
          obtain ⟨r27, hr, hf⟩ := bd_e hf
          refine g_callVI (As := [.int x1]) (rest := []) X (kX2_rowOf l h26 hr) (C := RX2) (T := TX2) (N := 6) (ci := 2) rfl h26 ⟨cdX2_rowOf, mlX5_101, imX2_rowOf, seX2_rowOf, iniX2⟩ hvX2_rowOf ⟨Nat.le_of_ble_eq_true rfl, Nat.le_of_ble_eq_true rfl⟩ hH hS hl rfl rfl (Nat.le_of_ble_eq_true rfl) ⟨Nat.le_refl 0, Nat.le_refl 0⟩ dX5_traveller_73 (fun H locs hH hS => ?_)
          exact g_iret X hH hS rfl (so1 hf) dX5_traveller_76
        · have hf := it_n hf c25
          by_cases c28 : x2 = (3 : Int32)
          · have hf := it_p hf c28
            refine lv_tableIn (tgt := 77) X.hx X.hb dX5_traveller_14 (by rw [c28]; decide) (by rw [c28]; decide) (off := 63) (by rw [c28]; decide) (by decide) ?_
            refine lv_aload_n X.hx X.hb dX5_traveller_77 rfl (lv_at hl 0 rfl) ?_
            refine gfX5_29 X hH ho dX5_traveller_78 ?_
            have h29 : gsh G (mP σ o 3) = some 2 := hH.2.2.1 _ _ _ _ ho rfl
            refine lv_iload_n X.hx X.hb dX5_traveller_81 rfl (lv_at hl 1 rfl) ?_
            obtain ⟨r30, hr, hf⟩ := bd_e hf
            refine g_callVI (As := [.int x1]) (rest := []) X (kX2_daysInRow l h29 hr) (C := RX2) (T := TX2) (N := 6) (ci := 2) rfl h29 ⟨cdX2_daysInRow, mlX5_105, imX2_daysInRow, seX2_daysInRow, iniX2⟩ hvX2_daysInRow ⟨Nat.le_of_ble_eq_true rfl, Nat.le_of_ble_eq_true rfl⟩ hH hS hl rfl rfl (Nat.le_of_ble_eq_true rfl) ⟨Nat.le_refl 0, Nat.le_refl 0⟩ dX5_traveller_82 (fun H locs hH hS => ?_)
            exact g_iret X hH hS rfl (so1 hf) dX5_traveller_85
          · have hf := it_n hf c28
            by_cases c31 : x2 = (4 : Int32)
            · have hf := it_p hf c31
              refine lv_tableIn (tgt := 86) X.hx X.hb dX5_traveller_14 (by rw [c31]; decide) (by rw [c31]; decide) (off := 72) (by rw [c31]; decide) (by decide) ?_
              refine lv_aload_n X.hx X.hb dX5_traveller_86 rfl (lv_at hl 0 rfl) ?_
              refine gfX5_29 X hH ho dX5_traveller_87 ?_
              have h32 : gsh G (mP σ o 3) = some 2 := hH.2.2.1 _ _ _ _ ho rfl
              refine lv_iload_n X.hx X.hb dX5_traveller_90 rfl (lv_at hl 1 rfl) ?_
              obtain ⟨r33, hr, hf⟩ := bd_e hf
              refine g_callVI (As := [.int x1]) (rest := []) X (kX2_isGone l h32 hr) (C := RX2) (T := TX2) (N := 6) (ci := 2) rfl h32 ⟨cdX2_isGone, mlX5_108, imX2_isGone, seX2_isGone, iniX2⟩ hvX2_isGone ⟨Nat.le_of_ble_eq_true rfl, Nat.le_of_ble_eq_true rfl⟩ hH hS hl rfl rfl (Nat.le_of_ble_eq_true rfl) ⟨Nat.le_refl 0, Nat.le_refl 0⟩ dX5_traveller_91 (fun H locs hH hS => ?_)
              refine lv_if_eq (tgt := 101) X.hx X.hb dX5_traveller_94 (by decide) (fun c34 => ?_) (fun c34 => ?_)
              · have hf := it_p hf c34
                refine lv_iconst (v := 0) X.hx X.hb dX5_traveller_101 (by decide) ?_
                exact g_iret X hH hS rfl (so1 hf) dX5_traveller_102
              · have hf := it_n hf c34
                refine lv_iconst (v := 1) X.hx X.hb dX5_traveller_97 (by decide) ?_
                refine lv_goto (tgt := 102) X.hx X.hb dX5_traveller_98 (by decide) ?_
                exact g_iret X hH hS rfl (so1 hf) dX5_traveller_102
            · have hf := it_n hf c31
              refine lv_tableOut (tgt := 103) X.hx X.hb dX5_traveller_14 (by have := c21; have e0 := lv_neT c21 (a := 0) (by decide); have e1 := lv_neT c23 (a := 1) (by decide); have e2 := lv_neT c25 (a := 2) (by decide); have e3 := lv_neT c28 (a := 3) (by decide); have e4 := lv_neT c31 (a := 4) (by decide); omega) (by decide) ?_
              refine lv_iconst (v := -1) X.hx X.hb dX5_traveller_103 (by decide) ?_
              exact g_iret X hH hS rfl (so1 hf) dX5_traveller_104
  · have hf := it_p hf c20
    refine lv_iconst (v := -1) X.hx X.hb dX5_traveller_11 (by decide) ?_
    exact g_iret X hH hS rfl (so1 hf) dX5_traveller_12
set_option maxRecDepth 20000 in
set_option maxHeartbeats 4000000 in
theorem kX5_clerk (l : Launch) {G : gG} {σ : Mem} {r : Int32} {o : Nat} {x1 : Int32} {x2 : Int32} (ho : gsh G o = some 5)  (hf : fX5_clerk σ o x1 x2 = some r) : CM l yX5_clerk cX5_clerk 3 (some .int) 1 21 G σ [.ref (gad G o 0), .int x1, .int x2] (some (.int r)) σ := by
  refine CM.of (by decide) (Nat.le_of_ble_eq_true rfl) (fun p e s m below meth c ls X hH hl => ?_)
  have X : gX p s m _ meth c yX5_clerk cX5_clerk 3 (some .int) RX5 G := X
  have hS : va_S (gAA G) s.heap s.heap [] := va_S.rf
  have hl : lv_has ls 3 [(0, .ref (gad G o 0)), (1, .int x1), (2, .int x2)] := hl
  rw [fX5_clerk.eq_1] at hf
  refine lv_aload_n X.hx X.hb dX5_clerk_0 rfl (lv_at hl 0 rfl) ?_
  refine gfX5_19 X hH ho dX5_clerk_1 ?_
  have h10 : gsh G (mP σ o 1) = some 1 := hH.2.2.1 _ _ _ _ ho rfl
  refine lv_iload_n X.hx X.hb dX5_clerk_4 rfl (lv_at hl 1 rfl) ?_
  obtain ⟨r11, hr, hf⟩ := bd_e hf
  refine g_callVI (As := [.int x1]) (rest := []) X (kX1_hasClerk l h10 hr) (C := RX1) (T := TX1) (N := 11) (ci := 1) rfl h10 ⟨cdX1_hasClerk, mlX5_111, imX1_hasClerk, seX1_hasClerk, iniX1⟩ hvX1_hasClerk ⟨Nat.le_of_ble_eq_true rfl, Nat.le_of_ble_eq_true rfl⟩ hH hS hl rfl rfl (Nat.le_of_ble_eq_true rfl) ⟨Nat.le_refl 0, Nat.le_refl 0⟩ dX5_clerk_5 (fun H locs hH hS => ?_)
  refine lv_if_ne (tgt := 13) X.hx X.hb dX5_clerk_8 (by decide) (fun c12 => ?_) (fun c12 => ?_)
  · have hf := it_n hf c12
    refine lv_iload_n X.hx X.hb dX5_clerk_13 rfl (lv_at hl 2 rfl) ?_
    by_cases c13 : x2 = (0 : Int32)
    · have hf := it_p hf c13
      refine lv_tableIn (tgt := 40) X.hx X.hb dX5_clerk_14 (by rw [c13]; decide) (by rw [c13]; decide) (off := 26) (by rw [c13]; decide) (by decide) ?_
      refine lv_aload_n X.hx X.hb dX5_clerk_40 rfl (lv_at hl 0 rfl) ?_
      refine gfX5_19 X hH ho dX5_clerk_41 ?_
      have h14 : gsh G (mP σ o 1) = some 1 := hH.2.2.1 _ _ _ _ ho rfl
      refine gfX5_114 X hH h14 dX5_clerk_44 ?_
      refine lv_iload_n X.hx X.hb dX5_clerk_47 rfl (lv_at hl 1 rfl) ?_
      obtain ⟨hg, hf⟩ := gd_e hf
      refine g_iald X hH ⟨_, h14, rfl⟩ hg dX5_clerk_48 ?_
      exact g_iret X hH hS rfl (so1 hf) dX5_clerk_49
    · have hf := it_n hf c13
      by_cases c15 : x2 = (1 : Int32)
      · have hf := it_p hf c15
        refine lv_tableIn (tgt := 50) X.hx X.hb dX5_clerk_14 (by rw [c15]; decide) (by rw [c15]; decide) (off := 36) (by rw [c15]; decide) (by decide) ?_
        refine lv_aload_n X.hx X.hb dX5_clerk_50 rfl (lv_at hl 0 rfl) ?_
        refine gfX5_19 X hH ho dX5_clerk_51 ?_
        have h16 : gsh G (mP σ o 1) = some 1 := hH.2.2.1 _ _ _ _ ho rfl
        refine gfX5_117 X hH h16 dX5_clerk_54 ?_
        refine lv_iload_n X.hx X.hb dX5_clerk_57 rfl (lv_at hl 1 rfl) ?_
        obtain ⟨hg, hf⟩ := gd_e hf
        refine g_iald X hH ⟨_, h16, rfl⟩ hg dX5_clerk_58 ?_
        exact g_iret X hH hS rfl (so1 hf) dX5_clerk_59
      · have hf := it_n hf c15
        by_cases c17 : x2 = (2 : Int32)
        · have hf := it_p hf c17
          refine lv_tableIn (tgt := 60) X.hx X.hb dX5_clerk_14 (by rw [c17]; decide) (by rw [c17]; decide) (off := 46) (by rw [c17]; decide) (by decide) ?_
          refine lv_aload_n X.hx X.hb dX5_clerk_60 rfl (lv_at hl 0 rfl) ?_
          refine gfX5_19 X hH ho dX5_clerk_61 ?_
          have h18 : gsh G (mP σ o 1) = some 1 := hH.2.2.1 _ _ _ _ ho rfl
          refine gfX5_120 X hH h18 dX5_clerk_64 ?_
          refine lv_iload_n X.hx X.hb dX5_clerk_67 rfl (lv_at hl 1 rfl) ?_
          obtain ⟨hg, hf⟩ := gd_e hf
          refine g_iald X hH ⟨_, h18, rfl⟩ hg dX5_clerk_68 ?_
          exact g_iret X hH hS rfl (so1 hf) dX5_clerk_69
        · have hf := it_n hf c17
          refine lv_tableOut (tgt := 70) X.hx X.hb dX5_clerk_14 (by have := c13; have e0 := lv_neT c13 (a := 0) (by decide); have e1 := lv_neT c15 (a := 1) (by decide); have e2 := lv_neT c17 (a := 2) (by decide); omega) (by decide) ?_
          refine lv_iconst (v := -1) X.hx X.hb dX5_clerk_70 (by decide) ?_
          exact g_iret X hH hS rfl (so1 hf) dX5_clerk_71
  · have hf := it_p hf c12
    refine lv_iconst (v := -1) X.hx X.hb dX5_clerk_11 (by decide) ?_
    exact g_iret X hH hS rfl (so1 hf) dX5_clerk_12
set_option maxRecDepth 20000 in
set_option maxHeartbeats 4000000 in
theorem kX5_now (l : Launch) {G : gG} {σ : Mem} {r : Int32} {o : Nat} {x1 : Int32} (ho : gsh G o = some 5)  (hf : fX5_now σ o x1 = some r) : CM l yX5_now cX5_now 2 (some .int) 1 24 G σ [.ref (gad G o 0), .int x1] (some (.int r)) σ := by
  refine CM.of (by decide) (Nat.le_of_ble_eq_true rfl) (fun p e s m below meth c ls X hH hl => ?_)
  have X : gX p s m _ meth c yX5_now cX5_now 2 (some .int) RX5 G := X
  have hS : va_S (gAA G) s.heap s.heap [] := va_S.rf
  have hl : lv_has ls 2 [(0, .ref (gad G o 0)), (1, .int x1)] := hl
  rw [fX5_now.eq_1] at hf
  refine lv_iload_n X.hx X.hb dX5_now_0 rfl (lv_at hl 1 rfl) ?_
  by_cases c18 : x1 = (0 : Int32)
  · have hf := it_p hf c18
    refine lv_tableIn (tgt := 40) X.hx X.hb dX5_now_1 (by rw [c18]; decide) (by rw [c18]; decide) (off := 39) (by rw [c18]; decide) (by decide) ?_
    refine lv_aload_n X.hx X.hb dX5_now_40 rfl (lv_at hl 0 rfl) ?_
    refine gfX5_29 X hH ho dX5_now_41 ?_
    have h19 : gsh G (mP σ o 3) = some 2 := hH.2.2.1 _ _ _ _ ho rfl
    refine gfX5_123 X hH h19 dX5_now_44 ?_
    exact g_iret X hH hS rfl (so1 hf) dX5_now_47
  · have hf := it_n hf c18
    by_cases c20 : x1 = (1 : Int32)
    · have hf := it_p hf c20
      refine lv_tableIn (tgt := 48) X.hx X.hb dX5_now_1 (by rw [c20]; decide) (by rw [c20]; decide) (off := 47) (by rw [c20]; decide) (by decide) ?_
      refine lv_aload_n X.hx X.hb dX5_now_48 rfl (lv_at hl 0 rfl) ?_
      refine gfX5_29 X hH ho dX5_now_49 ?_
      have h21 : gsh G (mP σ o 3) = some 2 := hH.2.2.1 _ _ _ _ ho rfl
      refine gfX5_126 X hH h21 dX5_now_52 ?_
      exact g_iret X hH hS rfl (so1 hf) dX5_now_55
    · have hf := it_n hf c20
      by_cases c22 : x1 = (2 : Int32)
      · have hf := it_p hf c22
        refine lv_tableIn (tgt := 56) X.hx X.hb dX5_now_1 (by rw [c22]; decide) (by rw [c22]; decide) (off := 55) (by rw [c22]; decide) (by decide) ?_
        refine lv_aload_n X.hx X.hb dX5_now_56 rfl (lv_at hl 0 rfl) ?_
        refine gfX5_29 X hH ho dX5_now_57 ?_
        have h23 : gsh G (mP σ o 3) = some 2 := hH.2.2.1 _ _ _ _ ho rfl
        refine lv_aload_n X.hx X.hb dX5_now_60 rfl (lv_at hl 0 rfl) ?_
        refine gfX5_19 X hH ho dX5_now_61 ?_
        have h24 : gsh G (mP σ o 1) = some 1 := hH.2.2.1 _ _ _ _ ho rfl
        refine gfX5_129 X hH h24 dX5_now_64 ?_
        refine lv_iconst (v := 0) X.hx X.hb dX5_now_67 (by decide) ?_
        obtain ⟨r25, hr, hf⟩ := bd_e hf
        refine g_callVI (As := [.int (mI σ (mP σ o 1) 0), .int (0 : Int32)]) (rest := []) X (kX2_mayLeave l h23 hr) (C := RX2) (T := TX2) (N := 6) (ci := 2) rfl h23 ⟨cdX2_mayLeave, mlX5_132, imX2_mayLeave, seX2_mayLeave, iniX2⟩ hvX2_mayLeave ⟨Nat.le_of_ble_eq_true rfl, Nat.le_of_ble_eq_true rfl⟩ hH hS hl rfl rfl (Nat.le_of_ble_eq_true rfl) ⟨Nat.le_refl 0, Nat.le_refl 0⟩ dX5_now_68 (fun H locs hH hS => ?_)
        exact g_iret X hH hS rfl (so1 hf) dX5_now_71
      · have hf := it_n hf c22
        by_cases c26 : x1 = (3 : Int32)
        · have hf := it_p hf c26
          refine lv_tableIn (tgt := 72) X.hx X.hb dX5_now_1 (by rw [c26]; decide) (by rw [c26]; decide) (off := 71) (by rw [c26]; decide) (by decide) ?_
          refine lv_aload_n X.hx X.hb dX5_now_72 rfl (lv_at hl 0 rfl) ?_
          refine gfX5_29 X hH ho dX5_now_73 ?_
          have h27 : gsh G (mP σ o 3) = some 2 := hH.2.2.1 _ _ _ _ ho rfl
          refine gfX5_136 X hH h27 dX5_now_76 ?_
          exact g_iret X hH hS rfl (so1 hf) dX5_now_79
        · have hf := it_n hf c26
          by_cases c28 : x1 = (4 : Int32)
          · have hf := it_p hf c28
            refine lv_tableIn (tgt := 80) X.hx X.hb dX5_now_1 (by rw [c28]; decide) (by rw [c28]; decide) (off := 79) (by rw [c28]; decide) (by decide) ?_
            refine lv_aload_n X.hx X.hb dX5_now_80 rfl (lv_at hl 0 rfl) ?_
            refine gfX5_19 X hH ho dX5_now_81 ?_
            have h29 : gsh G (mP σ o 1) = some 1 := hH.2.2.1 _ _ _ _ ho rfl
            refine lv_aload_n X.hx X.hb dX5_now_84 rfl (lv_at hl 0 rfl) ?_
            refine gfX5_29 X hH ho dX5_now_85 ?_
            have h30 : gsh G (mP σ o 3) = some 2 := hH.2.2.1 _ _ _ _ ho rfl
            refine gfX5_123 X hH h30 dX5_now_88 ?_
            obtain ⟨r31, hr, hf⟩ := bd_e hf
            refine g_callVI (As := [.int (mI σ (mP σ o 3) 0)]) (rest := []) X (kX1_boatSailsOn l h29 hr) (C := RX1) (T := TX1) (N := 11) (ci := 1) rfl h29 ⟨cdX1_boatSailsOn, mlX5_139, imX1_boatSailsOn, seX1_boatSailsOn, iniX1⟩ hvX1_boatSailsOn ⟨Nat.le_of_ble_eq_true rfl, Nat.le_of_ble_eq_true rfl⟩ hH hS hl rfl rfl (Nat.le_of_ble_eq_true rfl) ⟨Nat.le_refl 0, Nat.le_refl 0⟩ dX5_now_91 (fun H locs hH hS => ?_)
            refine lv_if_eq (tgt := 101) X.hx X.hb dX5_now_94 (by decide) (fun c32 => ?_) (fun c32 => ?_)
            · have hf := it_p hf c32
              refine lv_iconst (v := 0) X.hx X.hb dX5_now_101 (by decide) ?_
              exact g_iret X hH hS rfl (so1 hf) dX5_now_102
            · have hf := it_n hf c32
              refine lv_iconst (v := 1) X.hx X.hb dX5_now_97 (by decide) ?_
              refine lv_goto (tgt := 102) X.hx X.hb dX5_now_98 (by decide) ?_
              exact g_iret X hH hS rfl (so1 hf) dX5_now_102
          · have hf := it_n hf c28
            by_cases c33 : x1 = (5 : Int32)
            · have hf := it_p hf c33
              refine lv_tableIn (tgt := 103) X.hx X.hb dX5_now_1 (by rw [c33]; decide) (by rw [c33]; decide) (off := 102) (by rw [c33]; decide) (by decide) ?_
              refine lv_aload_n X.hx X.hb dX5_now_103 rfl (lv_at hl 0 rfl) ?_
              refine gfX5_36 X hH ho dX5_now_104 ?_
              have h34 : gsh G (mP σ o 4) = some 0 := hH.2.2.1 _ _ _ _ ho rfl
              refine gfX5_89 X hH h34 dX5_now_107 ?_
              exact g_iret X hH hS rfl (so1 hf) dX5_now_110
            · have hf := it_n hf c33
              refine lv_tableOut (tgt := 111) X.hx X.hb dX5_now_1 (by have := c18; have e0 := lv_neT c18 (a := 0) (by decide); have e1 := lv_neT c20 (a := 1) (by decide); have e2 := lv_neT c22 (a := 2) (by decide); have e3 := lv_neT c26 (a := 3) (by decide); have e4 := lv_neT c28 (a := 4) (by decide); have e5 := lv_neT c33 (a := 5) (by decide); omega) (by decide) ?_
              refine lv_iconst (v := -1) X.hx X.hb dX5_now_111 (by decide) ?_
              exact g_iret X hH hS rfl (so1 hf) dX5_now_112
set_option maxRecDepth 20000 in
set_option maxHeartbeats 4000000 in
theorem kX5_puts (l : Launch) {G : gG} {σ : Mem} {r : Int32} {σ' : Mem} {o : Nat} {x1 : Int32} {x2 : Int32} (ho : gsh G o = some 5)  (hf : fX5_puts σ o x1 x2 = some (r, σ')) : CM l yX5_puts cX5_puts 3 (some .int) 2 43 G σ [.ref (gad G o 0), .int x1, .int x2] (some (.int r)) σ' := by
  refine CM.of (by decide) (Nat.le_of_ble_eq_true rfl) (fun p e s m below meth c ls X hH hl => ?_)
  have X : gX p s m _ meth c yX5_puts cX5_puts 3 (some .int) RX5 G := X
  have hS : va_S (gAA G) s.heap s.heap [] := va_S.rf
  have hl : lv_has ls 3 [(0, .ref (gad G o 0)), (1, .int x1), (2, .int x2)] := hl
  rw [fX5_puts.eq_1] at hf
  refine lv_aload_n X.hx X.hb dX5_puts_0 rfl (lv_at hl 0 rfl) ?_
  refine gfX5_19 X hH ho dX5_puts_1 ?_
  have h25 : gsh G (mP σ o 1) = some 1 := hH.2.2.1 _ _ _ _ ho rfl
  refine lv_iload_n X.hx X.hb dX5_puts_4 rfl (lv_at hl 1 rfl) ?_
  obtain ⟨r26, hr, hf⟩ := bd_e hf
  refine g_callVI (As := [.int x1]) (rest := []) X (kX1_hasTraveller l h25 hr) (C := RX1) (T := TX1) (N := 11) (ci := 1) rfl h25 ⟨cdX1_hasTraveller, mlX5_92, imX1_hasTraveller, seX1_hasTraveller, iniX1⟩ hvX1_hasTraveller ⟨Nat.le_of_ble_eq_true rfl, Nat.le_of_ble_eq_true rfl⟩ hH hS hl rfl rfl (Nat.le_of_ble_eq_true rfl) ⟨Nat.le_refl 0, Nat.le_refl 0⟩ dX5_puts_5 (fun H locs hH hS => ?_)
  refine lv_if_eq (tgt := 22) X.hx X.hb dX5_puts_8 (by decide) (fun c27 => ?_) (fun c27 => ?_)
  · have hf := it_p hf c27
    refine lv_iconst (v := -1) X.hx X.hb dX5_puts_22 (by decide) ?_
    have e := so2 hf
    rw [e.2] at hH
    exact g_iret X hH hS rfl e.1 dX5_puts_23
  · have hf := it_n hf c27
    refine lv_aload_n X.hx X.hb dX5_puts_11 rfl (lv_at hl 0 rfl) ?_
    refine gfX5_19 X hH ho dX5_puts_12 ?_
    have h28 : gsh G (mP σ o 1) = some 1 := hH.2.2.1 _ _ _ _ ho rfl
    refine lv_iload_n X.hx X.hb dX5_puts_15 rfl (lv_at hl 2 rfl) ?_
    obtain ⟨r29, hr, hf⟩ := bd_e hf
    refine g_callVI (As := [.int x2]) (rest := []) X (kX1_hasRow l h28 hr) (C := RX1) (T := TX1) (N := 11) (ci := 1) rfl h28 ⟨cdX1_hasRow, mlX5_142, imX1_hasRow, seX1_hasRow, iniX1⟩ hvX1_hasRow ⟨Nat.le_of_ble_eq_true rfl, Nat.le_of_ble_eq_true rfl⟩ hH hS hl rfl rfl (Nat.le_of_ble_eq_true rfl) ⟨Nat.le_refl 0, Nat.le_refl 0⟩ dX5_puts_16 (fun H locs hH hS => ?_)
    refine lv_if_ne (tgt := 24) X.hx X.hb dX5_puts_19 (by decide) (fun c30 => ?_) (fun c30 => ?_)
    · have hf := it_n hf c30
      refine lv_aload_n X.hx X.hb dX5_puts_24 rfl (lv_at hl 0 rfl) ?_
      refine gfX5_29 X hH ho dX5_puts_25 ?_
      have h31 : gsh G (mP σ o 3) = some 2 := hH.2.2.1 _ _ _ _ ho rfl
      refine gfX5_123 X hH h31 dX5_puts_28 ?_
      refine lv_aload_n X.hx X.hb dX5_puts_31 rfl (lv_at hl 0 rfl) ?_
      refine gfX5_19 X hH ho dX5_puts_32 ?_
      have h32 : gsh G (mP σ o 1) = some 1 := hH.2.2.1 _ _ _ _ ho rfl
      refine gfX5_95 X hH h32 dX5_puts_35 ?_
      refine lv_iload_n X.hx X.hb dX5_puts_38 rfl (lv_at hl 1 rfl) ?_
      obtain ⟨hg, hf⟩ := gd_e hf
      refine g_iald X hH ⟨_, h32, rfl⟩ hg dX5_puts_39 ?_
      refine lv_icmp_lt (tgt := 67) X.hx X.hb dX5_puts_40 (by decide) (fun c33 => ?_) (fun c33 => ?_)
      · have hf := it_p hf c33
        refine lv_bipush (v := -2) X.hx X.hb dX5_puts_67 (by decide) ?_
        have e := so2 hf
        rw [e.2] at hH
        exact g_iret X hH hS rfl e.1 dX5_puts_69
      · have hf := it_n hf c33
        refine lv_aload_n X.hx X.hb dX5_puts_43 rfl (lv_at hl 0 rfl) ?_
        refine gfX5_29 X hH ho dX5_puts_44 ?_
        have h34 : gsh G (mP σ o 3) = some 2 := hH.2.2.1 _ _ _ _ ho rfl
        refine lv_iload_n X.hx X.hb dX5_puts_47 rfl (lv_at hl 1 rfl) ?_
        obtain ⟨r35, hr, hf⟩ := bd_e hf
        refine g_callVI (As := [.int x1]) (rest := []) X (kX2_rowOf l h34 hr) (C := RX2) (T := TX2) (N := 6) (ci := 2) rfl h34 ⟨cdX2_rowOf, mlX5_101, imX2_rowOf, seX2_rowOf, iniX2⟩ hvX2_rowOf ⟨Nat.le_of_ble_eq_true rfl, Nat.le_of_ble_eq_true rfl⟩ hH hS hl rfl rfl (Nat.le_of_ble_eq_true rfl) ⟨Nat.le_refl 0, Nat.le_refl 0⟩ dX5_puts_48 (fun H locs hH hS => ?_)
        refine lv_bipush (v := -9) X.hx X.hb dX5_puts_51 (by decide) ?_
        refine lv_icmp_ne (tgt := 67) X.hx X.hb dX5_puts_53 (by decide) (fun c36 => ?_) (fun c36 => ?_)
        · have hf := it_n hf c36
          refine lv_bipush (v := -2) X.hx X.hb dX5_puts_67 (by decide) ?_
          have e := so2 hf
          rw [e.2] at hH
          exact g_iret X hH hS rfl e.1 dX5_puts_69
        · have hf := it_p hf c36
          refine lv_aload_n X.hx X.hb dX5_puts_56 rfl (lv_at hl 0 rfl) ?_
          refine gfX5_29 X hH ho dX5_puts_57 ?_
          have h37 : gsh G (mP σ o 3) = some 2 := hH.2.2.1 _ _ _ _ ho rfl
          refine lv_iload_n X.hx X.hb dX5_puts_60 rfl (lv_at hl 1 rfl) ?_
          obtain ⟨r38, hr, hf⟩ := bd_e hf
          refine g_callVI (As := [.int x1]) (rest := []) X (kX2_isGone l h37 hr) (C := RX2) (T := TX2) (N := 6) (ci := 2) rfl h37 ⟨cdX2_isGone, mlX5_108, imX2_isGone, seX2_isGone, iniX2⟩ hvX2_isGone ⟨Nat.le_of_ble_eq_true rfl, Nat.le_of_ble_eq_true rfl⟩ hH hS hl rfl rfl (Nat.le_of_ble_eq_true rfl) ⟨Nat.le_refl 0, Nat.le_refl 0⟩ dX5_puts_61 (fun H locs hH hS => ?_)
          refine lv_if_eq (tgt := 70) X.hx X.hb dX5_puts_64 (by decide) (fun c39 => ?_) (fun c39 => ?_)
          · have hf := it_p hf c39
            refine lv_aload_n X.hx X.hb dX5_puts_70 rfl (lv_at hl 0 rfl) ?_
            refine gfX5_36 X hH ho dX5_puts_71 ?_
            have h40 : gsh G (mP σ o 4) = some 0 := hH.2.2.1 _ _ _ _ ho rfl
            refine lv_aload_n X.hx X.hb dX5_puts_74 rfl (lv_at hl 0 rfl) ?_
            refine gfX5_29 X hH ho dX5_puts_75 ?_
            have h41 : gsh G (mP σ o 3) = some 2 := hH.2.2.1 _ _ _ _ ho rfl
            obtain ⟨σ42, hr, hf⟩ := bd_e hf
            refine g_callVV (As := [.ref (gad G (mP σ o 3) 0)]) (rest := []) X (kX0_remember l h40 h41 hr) (C := RX0) (T := TX0) (N := 3) (ci := 0) rfl h40 ⟨cdX0_remember, mlX5_145, imX0_remember, seX0_remember, iniX0⟩ hvX0_remember ⟨Nat.le_of_ble_eq_true rfl, Nat.le_of_ble_eq_true rfl⟩ hH hS hl rfl rfl (Nat.le_of_ble_eq_true rfl) ⟨Nat.le_refl 0, Nat.le_refl 0⟩ dX5_puts_78 (fun H locs hH hS => ?_)
            refine lv_aload_n X.hx X.hb dX5_puts_81 rfl (lv_at hl 0 rfl) ?_
            refine gfX5_29 X hH ho dX5_puts_82 ?_
            have h43 : gsh G (mP σ42 o 3) = some 2 := hH.2.2.1 _ _ _ _ ho rfl
            refine gfX5_149 X hH h43 dX5_puts_85 ?_
            refine lv_iload_n X.hx X.hb dX5_puts_88 rfl (lv_at hl 2 rfl) ?_
            refine lv_dup2_11 X.hx X.hb dX5_puts_89 rfl rfl ?_
            obtain ⟨hg, hf⟩ := gd_e hf
            refine g_iald X hH ⟨_, h43, rfl⟩ hg dX5_puts_90 ?_
            refine lv_iconst (v := 1) X.hx X.hb dX5_puts_91 (by decide) ?_
            refine lv_iload_n X.hx X.hb dX5_puts_92 rfl (lv_at hl 1 rfl) ?_
            refine lv_ishl X.hx X.hb dX5_puts_93 ?_
            refine lv_ior X.hx X.hb dX5_puts_94 ?_
            obtain ⟨hg, hf⟩ := gd_e hf
            refine g_iast X hH hS ⟨_, h43, rfl⟩ hg dX5_puts_95 (fun H locs hH hS => ?_)
            obtain ⟨σ44, he, hf⟩ := stp_e hf
            rw [← he] at hH
            clear he
            refine lv_aload_n X.hx X.hb dX5_puts_96 rfl (lv_at hl 0 rfl) ?_
            refine gfX5_29 X hH ho dX5_puts_97 ?_
            have h45 : gsh G (mP σ44 o 3) = some 2 := hH.2.2.1 _ _ _ _ ho rfl
            refine gfX5_152 X hH h45 dX5_puts_100 ?_
            refine lv_iload_n X.hx X.hb dX5_puts_103 rfl (lv_at hl 2 rfl) ?_
            refine lv_iconst (v := 0) X.hx X.hb dX5_puts_104 (by decide) ?_
            obtain ⟨hg, hf⟩ := gd_e hf
            refine g_iast X hH hS ⟨_, h45, rfl⟩ hg dX5_puts_105 (fun H locs hH hS => ?_)
            obtain ⟨σ46, he, hf⟩ := stp_e hf
            rw [← he] at hH
            clear he
            refine lv_aload_n X.hx X.hb dX5_puts_106 rfl (lv_at hl 0 rfl) ?_
            refine gfX5_29 X hH ho dX5_puts_107 ?_
            have h47 : gsh G (mP σ46 o 3) = some 2 := hH.2.2.1 _ _ _ _ ho rfl
            refine gfX5_149 X hH h47 dX5_puts_110 ?_
            refine lv_iload_n X.hx X.hb dX5_puts_113 rfl (lv_at hl 2 rfl) ?_
            obtain ⟨hg, hf⟩ := gd_e hf
            refine g_iald X hH ⟨_, h47, rfl⟩ hg dX5_puts_114 ?_
            obtain ⟨r48, hr, hf⟩ := bd_e hf
            refine g_callSI (As := [.int (mA σ46 (mP σ46 o 3) 4 x2.toNatClampNeg)]) (rest := []) X (kJ6_bitCount_0f7a4 l  hr) ⟨cdJ6_bitCount_0f7a4, mlX5_155, stJ6_bitCount_0f7a4, iniJ6⟩ hsJ6_bitCount_0f7a4 ⟨Nat.le_of_ble_eq_true rfl, Nat.le_of_ble_eq_true rfl⟩ hH hS hl rfl rfl (Nat.le_of_ble_eq_true rfl) ⟨Nat.le_refl 0, Nat.le_refl 0⟩ dX5_puts_115 (fun H locs hH hS => ?_)
            have e := so2 hf
            rw [e.2] at hH
            exact g_iret X hH hS rfl e.1 dX5_puts_118
          · have hf := it_n hf c39
            refine lv_bipush (v := -2) X.hx X.hb dX5_puts_67 (by decide) ?_
            have e := so2 hf
            rw [e.2] at hH
            exact g_iret X hH hS rfl e.1 dX5_puts_69
    · have hf := it_p hf c30
      refine lv_iconst (v := -1) X.hx X.hb dX5_puts_22 (by decide) ?_
      have e := so2 hf
      rw [e.2] at hH
      exact g_iret X hH hS rfl e.1 dX5_puts_23
set_option maxRecDepth 20000 in
set_option maxHeartbeats 4000000 in
theorem kX5_day (l : Launch) {G : gG} {σ : Mem} {r : Int32} {σ' : Mem} {o : Nat} (ho : gsh G o = some 5)  (hf : fX5_day σ o = some (r, σ')) : CM l yX5_day cX5_day 1 (some .int) 3 61 G σ [.ref (gad G o 0)] (some (.int r)) σ' := by
  refine CM.of (by decide) (Nat.le_of_ble_eq_true rfl) (fun p e s m below meth c ls X hH hl => ?_)
  have X : gX p s m _ meth c yX5_day cX5_day 1 (some .int) RX5 G := X
  have hS : va_S (gAA G) s.heap s.heap [] := va_S.rf
  have hl : lv_has ls 1 [(0, .ref (gad G o 0))] := hl
  rw [fX5_day.eq_1] at hf
  refine lv_aload_n X.hx X.hb dX5_day_0 rfl (lv_at hl 0 rfl) ?_
  refine gfX5_29 X hH ho dX5_day_1 ?_
  have h11 : gsh G (mP σ o 3) = some 2 := hH.2.2.1 _ _ _ _ ho rfl
  refine gfX5_123 X hH h11 dX5_day_4 ?_
  refine lv_sipush (v := 200) X.hx X.hb dX5_day_7 (by decide) ?_
  refine lv_icmp_lt (tgt := 16) X.hx X.hb dX5_day_10 (by decide) (fun c12 => ?_) (fun c12 => ?_)
  · have hf := it_p hf c12
    refine lv_aload_n X.hx X.hb dX5_day_16 rfl (lv_at hl 0 rfl) ?_
    refine gfX5_36 X hH ho dX5_day_17 ?_
    have h13 : gsh G (mP σ o 4) = some 0 := hH.2.2.1 _ _ _ _ ho rfl
    refine lv_aload_n X.hx X.hb dX5_day_20 rfl (lv_at hl 0 rfl) ?_
    refine gfX5_29 X hH ho dX5_day_21 ?_
    have h14 : gsh G (mP σ o 3) = some 2 := hH.2.2.1 _ _ _ _ ho rfl
    obtain ⟨σ15, hr, hf⟩ := bd_e hf
    refine g_callVV (As := [.ref (gad G (mP σ o 3) 0)]) (rest := []) X (kX0_remember l h13 h14 hr) (C := RX0) (T := TX0) (N := 3) (ci := 0) rfl h13 ⟨cdX0_remember, mlX5_145, imX0_remember, seX0_remember, iniX0⟩ hvX0_remember ⟨Nat.le_of_ble_eq_true rfl, Nat.le_of_ble_eq_true rfl⟩ hH hS hl rfl rfl (Nat.le_of_ble_eq_true rfl) ⟨Nat.le_refl 0, Nat.le_refl 0⟩ dX5_day_24 (fun H locs hH hS => ?_)
    refine lv_aload_n X.hx X.hb dX5_day_27 rfl (lv_at hl 0 rfl) ?_
    refine gfX5_29 X hH ho dX5_day_28 ?_
    have h16 : gsh G (mP σ15 o 3) = some 2 := hH.2.2.1 _ _ _ _ ho rfl
    obtain ⟨σ17, hr, hf⟩ := bd_e hf
    refine g_callVV (As := []) (rest := []) X (kX2_passDay l h16 hr) (C := RX2) (T := TX2) (N := 6) (ci := 2) rfl h16 ⟨cdX2_passDay, mlX5_160, imX2_passDay, seX2_passDay, iniX2⟩ hvX2_passDay ⟨Nat.le_of_ble_eq_true rfl, Nat.le_of_ble_eq_true rfl⟩ hH hS hl rfl rfl (Nat.le_of_ble_eq_true rfl) ⟨Nat.le_refl 0, Nat.le_refl 0⟩ dX5_day_31 (fun H locs hH hS => ?_)
    refine lv_aload_n X.hx X.hb dX5_day_34 rfl (lv_at hl 0 rfl) ?_
    refine gfX5_29 X hH ho dX5_day_35 ?_
    have h18 : gsh G (mP σ17 o 3) = some 2 := hH.2.2.1 _ _ _ _ ho rfl
    refine lv_aload_n X.hx X.hb dX5_day_38 rfl (lv_at hl 0 rfl) ?_
    refine gfX5_19 X hH ho dX5_day_39 ?_
    have h19 : gsh G (mP σ17 o 1) = some 1 := hH.2.2.1 _ _ _ _ ho rfl
    refine gfX5_129 X hH h19 dX5_day_42 ?_
    refine lv_iconst (v := 0) X.hx X.hb dX5_day_45 (by decide) ?_
    obtain ⟨r20, hr, hf⟩ := bd_e hf
    refine g_callVI (As := [.int (mI σ17 (mP σ17 o 1) 0), .int (0 : Int32)]) (rest := []) X (kX2_mayLeave l h18 hr) (C := RX2) (T := TX2) (N := 6) (ci := 2) rfl h18 ⟨cdX2_mayLeave, mlX5_132, imX2_mayLeave, seX2_mayLeave, iniX2⟩ hvX2_mayLeave ⟨Nat.le_of_ble_eq_true rfl, Nat.le_of_ble_eq_true rfl⟩ hH hS hl rfl rfl (Nat.le_of_ble_eq_true rfl) ⟨Nat.le_refl 0, Nat.le_refl 0⟩ dX5_day_46 (fun H locs hH hS => ?_)
    have e := so2 hf
    rw [e.2] at hH
    exact g_iret X hH hS rfl e.1 dX5_day_49
  · have hf := it_n hf c12
    refine lv_bipush (v := -2) X.hx X.hb dX5_day_13 (by decide) ?_
    have e := so2 hf
    rw [e.2] at hH
    exact g_iret X hH hS rfl e.1 dX5_day_15
set_option maxRecDepth 20000 in
set_option maxHeartbeats 4000000 in
theorem bX5_sails_40 {p : Program} {l : Launch} {e : Env} {s : State} {m : MethodId} {args : Array Value} {below : List Frame} {meth : Method} {c : Code} {G : gG} (X : gX p s m args meth c yX5_sails cX5_sails 3 (some .int) RX5 G) {o : Nat} (ho : gsh G o = some 5)  {r : Int32} {σ' : Mem} : (∀ (σ : Mem) (x1 : Int32) (xs0 : Int32), fX5_sails_40 o σ x1 xs0 = some (r, σ') → ∀ (H : Heap) (locs : List Loc) (ls : Array Slot), gH G σ H → va_S (gAA G) s.heap H locs → lv_has ls 3 [(0, .ref (gad G o 0)), (1, .int x1)] → WB p l e 2 43 s m args below meth c G (some (.int r)) σ' H locs (F0 m 40 ls [.int xs0])) := by
  intro σ x1 xs0 hf H locs ls hH hS hl
  rw [fX5_sails_40.eq_1] at hf
  refine lv_istore_n (lv' := [(2, .int xs0), (0, .ref (gad G o 0)), (1, .int x1)]) X.hx X.hb dX5_sails_40 rfl hl (by decide) rfl (fun ls hl => ?_)
  refine lv_iload_n X.hx X.hb dX5_sails_41 rfl (lv_at hl 0 rfl) ?_
  refine lv_if_eq (tgt := 62) X.hx X.hb dX5_sails_42 (by decide) (fun c20 => ?_) (fun c20 => ?_)
  · have hf := it_p hf c20
    refine lv_bipush (v := -2) X.hx X.hb dX5_sails_62 (by decide) ?_
    have e := so2 hf
    rw [e.2] at hH
    exact g_iret X hH hS rfl e.1 dX5_sails_64
  · have hf := it_n hf c20
    refine lv_aload_n X.hx X.hb dX5_sails_45 rfl (lv_at hl 1 rfl) ?_
    refine gfX5_19 X hH ho dX5_sails_46 ?_
    have h21 : gsh G (mP σ o 1) = some 1 := hH.2.2.1 _ _ _ _ ho rfl
    refine lv_aload_n X.hx X.hb dX5_sails_49 rfl (lv_at hl 1 rfl) ?_
    refine gfX5_29 X hH ho dX5_sails_50 ?_
    have h22 : gsh G (mP σ o 3) = some 2 := hH.2.2.1 _ _ _ _ ho rfl
    refine gfX5_123 X hH h22 dX5_sails_53 ?_
    obtain ⟨r23, hr, hf⟩ := bd_e hf
    refine g_callVI (As := [.int (mI σ (mP σ o 3) 0)]) (rest := []) X (kX1_boatSailsOn l h21 hr) (C := RX1) (T := TX1) (N := 11) (ci := 1) rfl h21 ⟨cdX1_boatSailsOn, mlX5_139, imX1_boatSailsOn, seX1_boatSailsOn, iniX1⟩ hvX1_boatSailsOn ⟨Nat.le_of_ble_eq_true rfl, Nat.le_of_ble_eq_true rfl⟩ hH hS hl rfl rfl (Nat.le_of_ble_eq_true rfl) ⟨Nat.le_refl 0, Nat.le_refl 0⟩ dX5_sails_56 (fun H locs hH hS => ?_)
    refine lv_if_ne (tgt := 65) X.hx X.hb dX5_sails_59 (by decide) (fun c24 => ?_) (fun c24 => ?_)
    · have hf := it_n hf c24
      refine lv_aload_n X.hx X.hb dX5_sails_65 rfl (lv_at hl 1 rfl) ?_
      refine gfX5_36 X hH ho dX5_sails_66 ?_
      have h25 : gsh G (mP σ o 4) = some 0 := hH.2.2.1 _ _ _ _ ho rfl
      refine lv_aload_n X.hx X.hb dX5_sails_69 rfl (lv_at hl 1 rfl) ?_
      refine gfX5_29 X hH ho dX5_sails_70 ?_
      have h26 : gsh G (mP σ o 3) = some 2 := hH.2.2.1 _ _ _ _ ho rfl
      obtain ⟨σ27, hr, hf⟩ := bd_e hf
      refine g_callVV (As := [.ref (gad G (mP σ o 3) 0)]) (rest := []) X (kX0_remember l h25 h26 hr) (C := RX0) (T := TX0) (N := 3) (ci := 0) rfl h25 ⟨cdX0_remember, mlX5_145, imX0_remember, seX0_remember, iniX0⟩ hvX0_remember ⟨Nat.le_of_ble_eq_true rfl, Nat.le_of_ble_eq_true rfl⟩ hH hS hl rfl rfl (Nat.le_of_ble_eq_true rfl) ⟨Nat.le_refl 0, Nat.le_refl 0⟩ dX5_sails_73 (fun H locs hH hS => ?_)
      refine lv_aload_n X.hx X.hb dX5_sails_76 rfl (lv_at hl 1 rfl) ?_
      refine gfX5_29 X hH ho dX5_sails_77 ?_
      have h28 : gsh G (mP σ27 o 3) = some 2 := hH.2.2.1 _ _ _ _ ho rfl
      refine lv_iload_n X.hx X.hb dX5_sails_80 rfl (lv_at hl 2 rfl) ?_
      obtain ⟨σ29, hr, hf⟩ := bd_e hf
      refine g_callVV (As := [.int x1]) (rest := []) X (kX2_letGo l h28 hr) (C := RX2) (T := TX2) (N := 6) (ci := 2) rfl h28 ⟨cdX2_letGo, mlX5_163, imX2_letGo, seX2_letGo, iniX2⟩ hvX2_letGo ⟨Nat.le_of_ble_eq_true rfl, Nat.le_of_ble_eq_true rfl⟩ hH hS hl rfl rfl (Nat.le_of_ble_eq_true rfl) ⟨Nat.le_refl 0, Nat.le_refl 0⟩ dX5_sails_81 (fun H locs hH hS => ?_)
      refine lv_aload_n X.hx X.hb dX5_sails_84 rfl (lv_at hl 1 rfl) ?_
      refine gfX5_29 X hH ho dX5_sails_85 ?_
      have h30 : gsh G (mP σ29 o 3) = some 2 := hH.2.2.1 _ _ _ _ ho rfl
      refine gfX5_136 X hH h30 dX5_sails_88 ?_
      obtain ⟨r31, hr, hf⟩ := bd_e hf
      refine g_callSI (As := [.int (mI σ29 (mP σ29 o 3) 2)]) (rest := []) X (kJ6_bitCount_0f7a4 l  hr) ⟨cdJ6_bitCount_0f7a4, mlX5_155, stJ6_bitCount_0f7a4, iniJ6⟩ hsJ6_bitCount_0f7a4 ⟨Nat.le_of_ble_eq_true rfl, Nat.le_of_ble_eq_true rfl⟩ hH hS hl rfl rfl (Nat.le_of_ble_eq_true rfl) ⟨Nat.le_refl 0, Nat.le_refl 0⟩ dX5_sails_91 (fun H locs hH hS => ?_)
      have e := so2 hf
      rw [e.2] at hH
      exact g_iret X hH hS rfl e.1 dX5_sails_94
    · have hf := it_p hf c24
      refine lv_bipush (v := -2) X.hx X.hb dX5_sails_62 (by decide) ?_
      have e := so2 hf
      rw [e.2] at hH
      exact g_iret X hH hS rfl e.1 dX5_sails_64
set_option maxRecDepth 20000 in
set_option maxHeartbeats 4000000 in
theorem kX5_sails (l : Launch) {G : gG} {σ : Mem} {r : Int32} {σ' : Mem} {o : Nat} {x1 : Int32} (ho : gsh G o = some 5)  (hf : fX5_sails σ o x1 = some (r, σ')) : CM l yX5_sails cX5_sails 3 (some .int) 2 43 G σ [.ref (gad G o 0), .int x1] (some (.int r)) σ' := by
  refine CM.of (by decide) (Nat.le_of_ble_eq_true rfl) (fun p e s m below meth c ls X hH hl => ?_)
  have X : gX p s m _ meth c yX5_sails cX5_sails 3 (some .int) RX5 G := X
  have hS : va_S (gAA G) s.heap s.heap [] := va_S.rf
  have hl : lv_has ls 3 [(0, .ref (gad G o 0)), (1, .int x1)] := hl
  rw [fX5_sails.eq_1] at hf
  refine lv_aload_n X.hx X.hb dX5_sails_0 rfl (lv_at hl 0 rfl) ?_
  refine gfX5_19 X hH ho dX5_sails_1 ?_
  have h32 : gsh G (mP σ o 1) = some 1 := hH.2.2.1 _ _ _ _ ho rfl
  refine lv_iload_n X.hx X.hb dX5_sails_4 rfl (lv_at hl 1 rfl) ?_
  obtain ⟨r33, hr, hf⟩ := bd_e hf
  refine g_callVI (As := [.int x1]) (rest := []) X (kX1_hasTraveller l h32 hr) (C := RX1) (T := TX1) (N := 11) (ci := 1) rfl h32 ⟨cdX1_hasTraveller, mlX5_92, imX1_hasTraveller, seX1_hasTraveller, iniX1⟩ hvX1_hasTraveller ⟨Nat.le_of_ble_eq_true rfl, Nat.le_of_ble_eq_true rfl⟩ hH hS hl rfl rfl (Nat.le_of_ble_eq_true rfl) ⟨Nat.le_refl 0, Nat.le_refl 0⟩ dX5_sails_5 (fun H locs hH hS => ?_)
  refine lv_if_ne (tgt := 13) X.hx X.hb dX5_sails_8 (by decide) (fun c34 => ?_) (fun c34 => ?_)
  · have hf := it_n hf c34
    refine lv_aload_n X.hx X.hb dX5_sails_13 rfl (lv_at hl 0 rfl) ?_
    refine gfX5_29 X hH ho dX5_sails_14 ?_
    have h35 : gsh G (mP σ o 3) = some 2 := hH.2.2.1 _ _ _ _ ho rfl
    refine lv_aload_n X.hx X.hb dX5_sails_17 rfl (lv_at hl 0 rfl) ?_
    refine gfX5_19 X hH ho dX5_sails_18 ?_
    have h36 : gsh G (mP σ o 1) = some 1 := hH.2.2.1 _ _ _ _ ho rfl
    refine gfX5_129 X hH h36 dX5_sails_21 ?_
    refine lv_iconst (v := 0) X.hx X.hb dX5_sails_24 (by decide) ?_
    obtain ⟨r37, hr, hf⟩ := bd_e hf
    refine g_callVI (As := [.int (mI σ (mP σ o 1) 0), .int (0 : Int32)]) (rest := []) X (kX2_mayLeave l h35 hr) (C := RX2) (T := TX2) (N := 6) (ci := 2) rfl h35 ⟨cdX2_mayLeave, mlX5_132, imX2_mayLeave, seX2_mayLeave, iniX2⟩ hvX2_mayLeave ⟨Nat.le_of_ble_eq_true rfl, Nat.le_of_ble_eq_true rfl⟩ hH hS hl rfl rfl (Nat.le_of_ble_eq_true rfl) ⟨Nat.le_refl 0, Nat.le_refl 0⟩ dX5_sails_25 (fun H locs hH hS => ?_)
    refine lv_iload_n X.hx X.hb dX5_sails_28 rfl (lv_at hl 1 rfl) ?_
    refine lv_ishr X.hx X.hb dX5_sails_29 ?_
    refine lv_iconst (v := 1) X.hx X.hb dX5_sails_30 (by decide) ?_
    refine lv_iand X.hx X.hb dX5_sails_31 ?_
    refine lv_if_eq (tgt := 39) X.hx X.hb dX5_sails_32 (by decide) (fun c38 => ?_) (fun c38 => ?_)
    · have hf := it_p hf c38
      refine lv_iconst (v := 0) X.hx X.hb dX5_sails_39 (by decide) ?_
      exact bX5_sails_40 X  ho   _ _ _  hf _ _ _ hH hS (lv_sub hl [0, 1] rfl)
    · have hf := it_n hf c38
      refine lv_iconst (v := 1) X.hx X.hb dX5_sails_35 (by decide) ?_
      refine lv_goto (tgt := 40) X.hx X.hb dX5_sails_36 (by decide) ?_
      exact bX5_sails_40 X  ho   _ _ _  hf _ _ _ hH hS (lv_sub hl [0, 1] rfl)
  · have hf := it_p hf c34
    refine lv_iconst (v := -1) X.hx X.hb dX5_sails_11 (by decide) ?_
    have e := so2 hf
    rw [e.2] at hH
    exact g_iret X hH hS rfl e.1 dX5_sails_12
set_option maxRecDepth 20000 in
set_option maxHeartbeats 4000000 in
theorem kX5_undo (l : Launch) {G : gG} {σ : Mem} {r : Int32} {σ' : Mem} {o : Nat} (ho : gsh G o = some 5)  (hf : fX5_undo σ o = some (r, σ')) : CM l yX5_undo cX5_undo 1 (some .int) 2 43 G σ [.ref (gad G o 0)] (some (.int r)) σ' := by
  refine CM.of (by decide) (Nat.le_of_ble_eq_true rfl) (fun p e s m below meth c ls X hH hl => ?_)
  have X : gX p s m _ meth c yX5_undo cX5_undo 1 (some .int) RX5 G := X
  have hS : va_S (gAA G) s.heap s.heap [] := va_S.rf
  have hl : lv_has ls 1 [(0, .ref (gad G o 0))] := hl
  rw [fX5_undo.eq_1] at hf
  refine lv_aload_n X.hx X.hb dX5_undo_0 rfl (lv_at hl 0 rfl) ?_
  refine gfX5_36 X hH ho dX5_undo_1 ?_
  have h7 : gsh G (mP σ o 4) = some 0 := hH.2.2.1 _ _ _ _ ho rfl
  refine gfX5_89 X hH h7 dX5_undo_4 ?_
  refine lv_if_ne (tgt := 13) X.hx X.hb dX5_undo_7 (by decide) (fun c8 => ?_) (fun c8 => ?_)
  · have hf := it_n hf c8
    refine lv_aload_n X.hx X.hb dX5_undo_13 rfl (lv_at hl 0 rfl) ?_
    refine gfX5_36 X hH ho dX5_undo_14 ?_
    have h9 : gsh G (mP σ o 4) = some 0 := hH.2.2.1 _ _ _ _ ho rfl
    refine lv_aload_n X.hx X.hb dX5_undo_17 rfl (lv_at hl 0 rfl) ?_
    refine gfX5_29 X hH ho dX5_undo_18 ?_
    have h10 : gsh G (mP σ o 3) = some 2 := hH.2.2.1 _ _ _ _ ho rfl
    obtain ⟨σ11, hr, hf⟩ := bd_e hf
    refine g_callVV (As := [.ref (gad G (mP σ o 3) 0)]) (rest := []) X (kX0_takeBack l h9 h10 hr) (C := RX0) (T := TX0) (N := 3) (ci := 0) rfl h9 ⟨cdX0_takeBack, mlX5_167, imX0_takeBack, seX0_takeBack, iniX0⟩ hvX0_takeBack ⟨Nat.le_of_ble_eq_true rfl, Nat.le_of_ble_eq_true rfl⟩ hH hS hl rfl rfl (Nat.le_of_ble_eq_true rfl) ⟨Nat.le_refl 0, Nat.le_refl 0⟩ dX5_undo_21 (fun H locs hH hS => ?_)
    refine lv_aload_n X.hx X.hb dX5_undo_24 rfl (lv_at hl 0 rfl) ?_
    refine gfX5_36 X hH ho dX5_undo_25 ?_
    have h12 : gsh G (mP σ11 o 4) = some 0 := hH.2.2.1 _ _ _ _ ho rfl
    refine gfX5_89 X hH h12 dX5_undo_28 ?_
    have e := so2 hf
    rw [e.2] at hH
    exact g_iret X hH hS rfl e.1 dX5_undo_31
  · have hf := it_p hf c8
    refine lv_bipush (v := -2) X.hx X.hb dX5_undo_10 (by decide) ?_
    have e := so2 hf
    rw [e.2] at hH
    exact g_iret X hH hS rfl e.1 dX5_undo_12
set_option maxRecDepth 20000 in
set_option maxHeartbeats 4000000 in
theorem kX5_isNoneOrTraveller (l : Launch) {G : gG} {σ : Mem} {r : Int32} {o : Nat} {x1 : Int32} (ho : gsh G o = some 5)  (hf : fX5_isNoneOrTraveller σ o x1 = some r) : CM l yX5_isNoneOrTraveller cX5_isNoneOrTraveller 2 (some .boolean) 1 21 G σ [.ref (gad G o 0), .int x1] (some (.int r)) σ := by
  refine CM.of (by decide) (Nat.le_of_ble_eq_true rfl) (fun p e s m below meth c ls X hH hl => ?_)
  have X : gX p s m _ meth c yX5_isNoneOrTraveller cX5_isNoneOrTraveller 2 (some .boolean) RX5 G := X
  have hS : va_S (gAA G) s.heap s.heap [] := va_S.rf
  have hl : lv_has ls 2 [(0, .ref (gad G o 0)), (1, .int x1)] := hl
  rw [fX5_isNoneOrTraveller.eq_1] at hf
  refine lv_iload_n X.hx X.hb dX5_isNoneOrTraveller_0 rfl (lv_at hl 1 rfl) ?_
  refine lv_bipush (v := -9) X.hx X.hb dX5_isNoneOrTraveller_1 (by decide) ?_
  refine lv_icmp_eq (tgt := 17) X.hx X.hb dX5_isNoneOrTraveller_3 (by decide) (fun c5 => ?_) (fun c5 => ?_)
  · have hf := it_p hf c5
    refine lv_iconst (v := 1) X.hx X.hb dX5_isNoneOrTraveller_17 (by decide) ?_
    refine lv_goto (tgt := 22) X.hx X.hb dX5_isNoneOrTraveller_18 (by decide) ?_
    exact g_zret X hH hS rfl (so1 hf) (by decide) dX5_isNoneOrTraveller_22
  · have hf := it_n hf c5
    refine lv_aload_n X.hx X.hb dX5_isNoneOrTraveller_6 rfl (lv_at hl 0 rfl) ?_
    refine gfX5_19 X hH ho dX5_isNoneOrTraveller_7 ?_
    have h6 : gsh G (mP σ o 1) = some 1 := hH.2.2.1 _ _ _ _ ho rfl
    refine lv_iload_n X.hx X.hb dX5_isNoneOrTraveller_10 rfl (lv_at hl 1 rfl) ?_
    obtain ⟨r7, hr, hf⟩ := bd_e hf
    refine g_callVI (As := [.int x1]) (rest := []) X (kX1_hasTraveller l h6 hr) (C := RX1) (T := TX1) (N := 11) (ci := 1) rfl h6 ⟨cdX1_hasTraveller, mlX5_92, imX1_hasTraveller, seX1_hasTraveller, iniX1⟩ hvX1_hasTraveller ⟨Nat.le_of_ble_eq_true rfl, Nat.le_of_ble_eq_true rfl⟩ hH hS hl rfl rfl (Nat.le_of_ble_eq_true rfl) ⟨Nat.le_refl 0, Nat.le_refl 0⟩ dX5_isNoneOrTraveller_11 (fun H locs hH hS => ?_)
    refine lv_if_eq (tgt := 21) X.hx X.hb dX5_isNoneOrTraveller_14 (by decide) (fun c8 => ?_) (fun c8 => ?_)
    · have hf := it_p hf c8
      refine lv_iconst (v := 0) X.hx X.hb dX5_isNoneOrTraveller_21 (by decide) ?_
      exact g_zret X hH hS rfl (so1 hf) (by decide) dX5_isNoneOrTraveller_22
    · have hf := it_n hf c8
      refine lv_iconst (v := 1) X.hx X.hb dX5_isNoneOrTraveller_17 (by decide) ?_
      refine lv_goto (tgt := 22) X.hx X.hb dX5_isNoneOrTraveller_18 (by decide) ?_
      exact g_zret X hH hS rfl (so1 hf) (by decide) dX5_isNoneOrTraveller_22
set_option maxRecDepth 20000 in
set_option maxHeartbeats 4000000 in
theorem kX5_most (l : Launch) {G : gG} {σ : Mem} {r : Int32} {σ' : Mem} {o : Nat} {x1 : Int32} {x2 : Int32} (ho : gsh G o = some 5)  (hf : fX5_most σ o x1 x2 = some (r, σ')) : CM l yX5_most cX5_most 4 (some .int) 4 93 G σ [.ref (gad G o 0), .int x1, .int x2] (some (.int r)) σ' := by
  refine CM.of (by decide) (Nat.le_of_ble_eq_true rfl) (fun p e s m below meth c ls X hH hl => ?_)
  have X : gX p s m _ meth c yX5_most cX5_most 4 (some .int) RX5 G := X
  have hS : va_S (gAA G) s.heap s.heap [] := va_S.rf
  have hl : lv_has ls 4 [(0, .ref (gad G o 0)), (1, .int x1), (2, .int x2)] := hl
  rw [fX5_most.eq_1] at hf
  refine lv_iload_n X.hx X.hb dX5_most_0 rfl (lv_at hl 1 rfl) ?_
  refine lv_if_lt (tgt := 19) X.hx X.hb dX5_most_1 (by decide) (fun c17 => ?_) (fun c17 => ?_)
  · have hf := it_p hf c17
    refine lv_iconst (v := -1) X.hx X.hb dX5_most_19 (by decide) ?_
    have e := so2 hf
    rw [e.2] at hH
    exact g_iret X hH hS rfl e.1 dX5_most_20
  · have hf := it_n hf c17
    refine lv_iload_n X.hx X.hb dX5_most_4 rfl (lv_at hl 1 rfl) ?_
    refine lv_sipush (v := 200) X.hx X.hb dX5_most_5 (by decide) ?_
    refine lv_icmp_gt (tgt := 19) X.hx X.hb dX5_most_8 (by decide) (fun c18 => ?_) (fun c18 => ?_)
    · have hf := it_p hf c18
      refine lv_iconst (v := -1) X.hx X.hb dX5_most_19 (by decide) ?_
      have e := so2 hf
      rw [e.2] at hH
      exact g_iret X hH hS rfl e.1 dX5_most_20
    · have hf := it_n hf c18
      refine lv_aload_n X.hx X.hb dX5_most_11 rfl (lv_at hl 0 rfl) ?_
      refine lv_iload_n X.hx X.hb dX5_most_12 rfl (lv_at hl 2 rfl) ?_
      obtain ⟨r19, hr, hf⟩ := bd_e hf
      refine g_callVI (As := [.int x2]) (rest := []) X (kX5_isNoneOrTraveller l ho hr) (C := RX5) (T := TX5) (N := 14) (ci := 5) rfl ho ⟨cdX5_isNoneOrTraveller, mlX5_170, imX5_isNoneOrTraveller, seX5_isNoneOrTraveller, iniX5⟩ hvX5_isNoneOrTraveller ⟨Nat.le_of_ble_eq_true rfl, Nat.le_of_ble_eq_true rfl⟩ hH hS hl rfl rfl (Nat.le_of_ble_eq_true rfl) ⟨Nat.le_refl 0, Nat.le_refl 0⟩ dX5_most_13 (fun H locs hH hS => ?_)
      refine lv_if_ne (tgt := 21) X.hx X.hb dX5_most_16 (by decide) (fun c20 => ?_) (fun c20 => ?_)
      · have hf := it_n hf c20
        refine lv_aload_n X.hx X.hb dX5_most_21 rfl (lv_at hl 0 rfl) ?_
        refine gfX5_51 X hH ho dX5_most_22 ?_
        have h21 : gsh G (mP σ o 7) = some 3 := hH.2.2.1 _ _ _ _ ho rfl
        refine lv_aload_n X.hx X.hb dX5_most_25 rfl (lv_at hl 0 rfl) ?_
        refine gfX5_19 X hH ho dX5_most_26 ?_
        have h22 : gsh G (mP σ o 1) = some 1 := hH.2.2.1 _ _ _ _ ho rfl
        refine lv_iload_n X.hx X.hb dX5_most_29 rfl (lv_at hl 1 rfl) ?_
        obtain ⟨σ23, hr, hf⟩ := bd_e hf
        refine g_callVV (As := [.ref (gad G (mP σ o 1) 0), .int x1]) (rest := []) X (kX3_weigh l h21 h22 hr) (C := RX3) (T := TX3) (N := 5) (ci := 3) rfl h21 ⟨cdX3_weigh, mlX5_173, imX3_weigh, seX3_weigh, iniX3⟩ hvX3_weigh ⟨Nat.le_of_ble_eq_true rfl, Nat.le_of_ble_eq_true rfl⟩ hH hS hl rfl rfl (Nat.le_of_ble_eq_true rfl) ⟨Nat.le_refl 0, Nat.le_refl 0⟩ dX5_most_30 (fun H locs hH hS => ?_)
        refine lv_aload_n X.hx X.hb dX5_most_33 rfl (lv_at hl 0 rfl) ?_
        refine gfX5_51 X hH ho dX5_most_34 ?_
        have h24 : gsh G (mP σ23 o 7) = some 3 := hH.2.2.1 _ _ _ _ ho rfl
        refine lv_aload_n X.hx X.hb dX5_most_37 rfl (lv_at hl 0 rfl) ?_
        refine gfX5_19 X hH ho dX5_most_38 ?_
        have h25 : gsh G (mP σ23 o 1) = some 1 := hH.2.2.1 _ _ _ _ ho rfl
        obtain ⟨r26, σ27, hr, hf⟩ := bd2_e hf
        refine g_callVI (As := [.ref (gad G (mP σ23 o 1) 0)]) (rest := []) X (kX3_findBest l h24 h25 hr) (C := RX3) (T := TX3) (N := 5) (ci := 3) rfl h24 ⟨cdX3_findBest, mlX5_177, imX3_findBest, seX3_findBest, iniX3⟩ hvX3_findBest ⟨Nat.le_of_ble_eq_true rfl, Nat.le_of_ble_eq_true rfl⟩ hH hS hl rfl rfl (Nat.le_of_ble_eq_true rfl) ⟨Nat.le_refl 0, Nat.le_refl 0⟩ dX5_most_41 (fun H locs hH hS => ?_)
        refine lv_ineg X.hx X.hb dX5_most_44 ?_
        refine lv_istore_n (lv' := [(3, .int (-r26)), (0, .ref (gad G o 0)), (1, .int x1), (2, .int x2)]) X.hx X.hb dX5_most_45 rfl hl (by decide) rfl (fun ls hl => ?_)
        refine lv_iload_n X.hx X.hb dX5_most_46 rfl (lv_at hl 3 rfl) ?_
        refine lv_bipush (v := -9) X.hx X.hb dX5_most_47 (by decide) ?_
        refine lv_icmp_ne (tgt := 56) X.hx X.hb dX5_most_49 (by decide) (fun c28 => ?_) (fun c28 => ?_)
        · have hf := it_n hf c28
          refine lv_aload_n X.hx X.hb dX5_most_56 rfl (lv_at hl 1 rfl) ?_
          refine gfX5_51 X hH ho dX5_most_57 ?_
          have h29 : gsh G (mP σ27 o 7) = some 3 := hH.2.2.1 _ _ _ _ ho rfl
          refine lv_aload_n X.hx X.hb dX5_most_60 rfl (lv_at hl 1 rfl) ?_
          refine gfX5_19 X hH ho dX5_most_61 ?_
          have h30 : gsh G (mP σ27 o 1) = some 1 := hH.2.2.1 _ _ _ _ ho rfl
          refine lv_iload_n X.hx X.hb dX5_most_64 rfl (lv_at hl 3 rfl) ?_
          obtain ⟨r31, σ32, hr, hf⟩ := bd2_e hf
          refine g_callVI (As := [.ref (gad G (mP σ27 o 1) 0), .int x2]) (rest := []) X (kX3_bestRowOf l h29 h30 hr) (C := RX3) (T := TX3) (N := 5) (ci := 3) rfl h29 ⟨cdX3_bestRowOf, mlX5_180, imX3_bestRowOf, seX3_bestRowOf, iniX3⟩ hvX3_bestRowOf ⟨Nat.le_of_ble_eq_true rfl, Nat.le_of_ble_eq_true rfl⟩ hH hS hl rfl rfl (Nat.le_of_ble_eq_true rfl) ⟨Nat.le_refl 0, Nat.le_refl 0⟩ dX5_most_65 (fun H locs hH hS => ?_)
          have e := so2 hf
          rw [e.2] at hH
          exact g_iret X hH hS rfl e.1 dX5_most_68
        · have hf := it_p hf c28
          refine lv_iload_n X.hx X.hb dX5_most_52 rfl (lv_at hl 0 rfl) ?_
          refine lv_goto (tgt := 68) X.hx X.hb dX5_most_53 (by decide) ?_
          have e := so2 hf
          rw [e.2] at hH
          exact g_iret X hH hS rfl e.1 dX5_most_68
      · have hf := it_p hf c20
        refine lv_iconst (v := -1) X.hx X.hb dX5_most_19 (by decide) ?_
        have e := so2 hf
        rw [e.2] at hH
        exact g_iret X hH hS rfl e.1 dX5_most_20
set_option maxRecDepth 20000 in
set_option maxHeartbeats 4000000 in
theorem kX5_soonest (l : Launch) {G : gG} {σ : Mem} {r : Int32} {σ' : Mem} {o : Nat} {x1 : Int32} (ho : gsh G o = some 5)  (hf : fX5_soonest σ o x1 = some (r, σ')) : CM l yX5_soonest cX5_soonest 3 (some .int) 4 93 G σ [.ref (gad G o 0), .int x1] (some (.int r)) σ' := by
  refine CM.of (by decide) (Nat.le_of_ble_eq_true rfl) (fun p e s m below meth c ls X hH hl => ?_)
  have X : gX p s m _ meth c yX5_soonest cX5_soonest 3 (some .int) RX5 G := X
  have hS : va_S (gAA G) s.heap s.heap [] := va_S.rf
  have hl : lv_has ls 3 [(0, .ref (gad G o 0)), (1, .int x1)] := hl
  rw [fX5_soonest.eq_1] at hf
  refine lv_aload_n X.hx X.hb dX5_soonest_0 rfl (lv_at hl 0 rfl) ?_
  refine lv_iload_n X.hx X.hb dX5_soonest_1 rfl (lv_at hl 1 rfl) ?_
  obtain ⟨r15, hr, hf⟩ := bd_e hf
  refine g_callVI (As := [.int x1]) (rest := []) X (kX5_isNoneOrTraveller l ho hr) (C := RX5) (T := TX5) (N := 14) (ci := 5) rfl ho ⟨cdX5_isNoneOrTraveller, mlX5_170, imX5_isNoneOrTraveller, seX5_isNoneOrTraveller, iniX5⟩ hvX5_isNoneOrTraveller ⟨Nat.le_of_ble_eq_true rfl, Nat.le_of_ble_eq_true rfl⟩ hH hS hl rfl rfl (Nat.le_of_ble_eq_true rfl) ⟨Nat.le_refl 0, Nat.le_refl 0⟩ dX5_soonest_2 (fun H locs hH hS => ?_)
  refine lv_if_ne (tgt := 10) X.hx X.hb dX5_soonest_5 (by decide) (fun c16 => ?_) (fun c16 => ?_)
  · have hf := it_n hf c16
    refine lv_aload_n X.hx X.hb dX5_soonest_10 rfl (lv_at hl 0 rfl) ?_
    refine gfX5_51 X hH ho dX5_soonest_11 ?_
    have h17 : gsh G (mP σ o 7) = some 3 := hH.2.2.1 _ _ _ _ ho rfl
    refine lv_aload_n X.hx X.hb dX5_soonest_14 rfl (lv_at hl 0 rfl) ?_
    refine gfX5_19 X hH ho dX5_soonest_15 ?_
    have h18 : gsh G (mP σ o 1) = some 1 := hH.2.2.1 _ _ _ _ ho rfl
    refine lv_bipush (v := -9) X.hx X.hb dX5_soonest_18 (by decide) ?_
    obtain ⟨σ19, hr, hf⟩ := bd_e hf
    refine g_callVV (As := [.ref (gad G (mP σ o 1) 0), .int (-9 : Int32)]) (rest := []) X (kX3_weigh l h17 h18 hr) (C := RX3) (T := TX3) (N := 5) (ci := 3) rfl h17 ⟨cdX3_weigh, mlX5_173, imX3_weigh, seX3_weigh, iniX3⟩ hvX3_weigh ⟨Nat.le_of_ble_eq_true rfl, Nat.le_of_ble_eq_true rfl⟩ hH hS hl rfl rfl (Nat.le_of_ble_eq_true rfl) ⟨Nat.le_refl 0, Nat.le_refl 0⟩ dX5_soonest_20 (fun H locs hH hS => ?_)
    refine lv_aload_n X.hx X.hb dX5_soonest_23 rfl (lv_at hl 0 rfl) ?_
    refine gfX5_51 X hH ho dX5_soonest_24 ?_
    have h20 : gsh G (mP σ19 o 7) = some 3 := hH.2.2.1 _ _ _ _ ho rfl
    refine lv_aload_n X.hx X.hb dX5_soonest_27 rfl (lv_at hl 0 rfl) ?_
    refine gfX5_19 X hH ho dX5_soonest_28 ?_
    have h21 : gsh G (mP σ19 o 1) = some 1 := hH.2.2.1 _ _ _ _ ho rfl
    obtain ⟨r22, σ23, hr, hf⟩ := bd2_e hf
    refine g_callVI (As := [.ref (gad G (mP σ19 o 1) 0)]) (rest := []) X (kX3_findBest l h20 h21 hr) (C := RX3) (T := TX3) (N := 5) (ci := 3) rfl h20 ⟨cdX3_findBest, mlX5_177, imX3_findBest, seX3_findBest, iniX3⟩ hvX3_findBest ⟨Nat.le_of_ble_eq_true rfl, Nat.le_of_ble_eq_true rfl⟩ hH hS hl rfl rfl (Nat.le_of_ble_eq_true rfl) ⟨Nat.le_refl 0, Nat.le_refl 0⟩ dX5_soonest_31 (fun H locs hH hS => ?_)
    refine lv_istore_n (lv' := [(2, .int r22), (0, .ref (gad G o 0)), (1, .int x1)]) X.hx X.hb dX5_soonest_34 rfl hl (by decide) rfl (fun ls hl => ?_)
    refine lv_iload_n X.hx X.hb dX5_soonest_35 rfl (lv_at hl 2 rfl) ?_
    refine lv_bipush (v := -9) X.hx X.hb dX5_soonest_36 (by decide) ?_
    refine lv_icmp_ne (tgt := 49) X.hx X.hb dX5_soonest_38 (by decide) (fun c24 => ?_) (fun c24 => ?_)
    · have hf := it_n hf c24
      refine lv_aload_n X.hx X.hb dX5_soonest_49 rfl (lv_at hl 1 rfl) ?_
      refine gfX5_51 X hH ho dX5_soonest_50 ?_
      have h25 : gsh G (mP σ23 o 7) = some 3 := hH.2.2.1 _ _ _ _ ho rfl
      refine lv_aload_n X.hx X.hb dX5_soonest_53 rfl (lv_at hl 1 rfl) ?_
      refine gfX5_19 X hH ho dX5_soonest_54 ?_
      have h26 : gsh G (mP σ23 o 1) = some 1 := hH.2.2.1 _ _ _ _ ho rfl
      refine lv_iload_n X.hx X.hb dX5_soonest_57 rfl (lv_at hl 2 rfl) ?_
      obtain ⟨r27, σ28, hr, hf⟩ := bd2_e hf
      refine g_callVI (As := [.ref (gad G (mP σ23 o 1) 0), .int x1]) (rest := []) X (kX3_bestRowOf l h25 h26 hr) (C := RX3) (T := TX3) (N := 5) (ci := 3) rfl h25 ⟨cdX3_bestRowOf, mlX5_180, imX3_bestRowOf, seX3_bestRowOf, iniX3⟩ hvX3_bestRowOf ⟨Nat.le_of_ble_eq_true rfl, Nat.le_of_ble_eq_true rfl⟩ hH hS hl rfl rfl (Nat.le_of_ble_eq_true rfl) ⟨Nat.le_refl 0, Nat.le_refl 0⟩ dX5_soonest_58 (fun H locs hH hS => ?_)
      have e := so2 hf
      rw [e.2] at hH
      exact g_iret X hH hS rfl e.1 dX5_soonest_61
    · have hf := it_p hf c24
      refine lv_iload_n X.hx X.hb dX5_soonest_41 rfl (lv_at hl 0 rfl) ?_
      refine lv_sipush (v := 1000) X.hx X.hb dX5_soonest_42 (by decide) ?_
      refine lv_idiv X.hx X.hb dX5_soonest_45 (by decide) ?_
      refine lv_goto (tgt := 61) X.hx X.hb dX5_soonest_46 (by decide) ?_
      have e := so2 hf
      rw [e.2] at hH
      exact g_iret X hH hS rfl e.1 dX5_soonest_61
  · have hf := it_p hf c16
    refine lv_iconst (v := -1) X.hx X.hb dX5_soonest_8 (by decide) ?_
    have e := so2 hf
    rw [e.2] at hH
    exact g_iret X hH hS rfl e.1 dX5_soonest_9
set_option maxRecDepth 20000 in
set_option maxHeartbeats 4000000 in
theorem bX5_plan_30 {p : Program} {l : Launch} {e : Env} {s : State} {m : MethodId} {args : Array Value} {below : List Frame} {meth : Method} {c : Code} {G : gG} (X : gX p s m args meth c yX5_plan cX5_plan 5 (some .int) RX5 G) {o : Nat} (ho : gsh G o = some 5)  {r : Int32} {σ' : Mem} : (∀ (n : Nat) (σ : Mem) (x2 : Int32) (x3 : Int32) (x4 : Int32), fX5_plan_30 o n σ x2 x3 x4 = some (r, σ') → ∀ (H : Heap) (locs : List Loc) (ls : Array Slot), gH G σ H → va_S (gAA G) s.heap H locs → lv_has ls 5 [(0, .ref (gad G o 0)), (2, .int x2), (3, .int x3), (4, .int x4)] → WB p l e 3 69 s m args below meth c G (some (.int r)) σ' H locs (F0 m 30 ls [])) := by
  intro n
  induction n with
  | zero => intro σ x2 x3 x4 hf H locs ls hH hS hl; exact nomatch (show (none : Option (Int32 × Mem)) = some _ from hf)
  | succ n ih =>
    intro σ x2 x3 x4 hf H locs ls hH hS hl
    rw [fX5_plan_30.eq_2] at hf
    refine lv_iload X.hx X.hb dX5_plan_30 (lv_at hl 3 rfl) ?_
    refine lv_iconst (v := 3) X.hx X.hb dX5_plan_32 (by decide) ?_
    refine lv_icmp_ge (tgt := 66) X.hx X.hb dX5_plan_33 (by decide) (fun c16 => ?_) (fun c16 => ?_)
    · have hf := it_p hf c16
      refine lv_iload_n X.hx X.hb dX5_plan_66 rfl (lv_at hl 1 rfl) ?_
      refine lv_bipush (v := -9) X.hx X.hb dX5_plan_67 (by decide) ?_
      refine lv_icmp_ne (tgt := 76) X.hx X.hb dX5_plan_69 (by decide) (fun c17 => ?_) (fun c17 => ?_)
      · have hf := it_n hf c17
        refine lv_aload_n X.hx X.hb dX5_plan_76 rfl (lv_at hl 0 rfl) ?_
        refine gfX5_51 X hH ho dX5_plan_77 ?_
        have h18 : gsh G (mP σ o 7) = some 3 := hH.2.2.1 _ _ _ _ ho rfl
        refine gfX5_192 X hH h18 dX5_plan_80 ?_
        refine lv_iload_n X.hx X.hb dX5_plan_83 rfl (lv_at hl 1 rfl) ?_
        obtain ⟨hg, hf⟩ := gd_e hf
        refine g_iald X hH ⟨_, h18, rfl⟩ hg dX5_plan_84 ?_
        have e := so2 hf
        rw [e.2] at hH
        exact g_iret X hH hS rfl e.1 dX5_plan_85
      · have hf := it_p hf c17
        refine lv_iload_n X.hx X.hb dX5_plan_72 rfl (lv_at hl 2 rfl) ?_
        refine lv_goto (tgt := 85) X.hx X.hb dX5_plan_73 (by decide) ?_
        have e := so2 hf
        rw [e.2] at hH
        exact g_iret X hH hS rfl e.1 dX5_plan_85
    · have hf := it_n hf c16
      refine lv_iload_n X.hx X.hb dX5_plan_36 rfl (lv_at hl 2 rfl) ?_
      refine lv_aload_n X.hx X.hb dX5_plan_37 rfl (lv_at hl 0 rfl) ?_
      refine gfX5_51 X hH ho dX5_plan_38 ?_
      have h19 : gsh G (mP σ o 7) = some 3 := hH.2.2.1 _ _ _ _ ho rfl
      refine lv_aload_n X.hx X.hb dX5_plan_41 rfl (lv_at hl 0 rfl) ?_
      refine gfX5_19 X hH ho dX5_plan_42 ?_
      have h20 : gsh G (mP σ o 1) = some 1 := hH.2.2.1 _ _ _ _ ho rfl
      refine lv_aload_n X.hx X.hb dX5_plan_45 rfl (lv_at hl 0 rfl) ?_
      refine gfX5_51 X hH ho dX5_plan_46 ?_
      have h21 : gsh G (mP σ o 7) = some 3 := hH.2.2.1 _ _ _ _ ho rfl
      refine gfX5_188 X hH h21 dX5_plan_49 ?_
      refine lv_iload X.hx X.hb dX5_plan_52 (lv_at hl 3 rfl) ?_
      obtain ⟨hg, hf⟩ := gd_e hf
      refine g_iald X hH ⟨_, h21, rfl⟩ hg dX5_plan_54 ?_
      obtain ⟨r22, σ23, hr, hf⟩ := bd2_e hf
      refine g_callVI (As := [.ref (gad G (mP σ o 1) 0), .int (mA σ (mP σ o 7) 1 x4.toNatClampNeg)]) (rest := [.int x3]) X (kX3_runRow l h19 h20 hr) (C := RX3) (T := TX3) (N := 5) (ci := 3) rfl h19 ⟨cdX3_runRow, mlX5_189, imX3_runRow, seX3_runRow, iniX3⟩ hvX3_runRow ⟨Nat.le_of_ble_eq_true rfl, Nat.le_of_ble_eq_true rfl⟩ hH hS hl rfl rfl (Nat.le_of_ble_eq_true rfl) ⟨Nat.le_refl 0, Nat.le_refl 0⟩ dX5_plan_55 (fun H locs hH hS => ?_)
      refine lv_iadd X.hx X.hb dX5_plan_58 ?_
      refine lv_istore_n (lv' := [(3, .int (x3 + r22)), (0, .ref (gad G o 0)), (2, .int x2), (4, .int x4)]) X.hx X.hb dX5_plan_59 rfl hl (by decide) rfl (fun ls hl => ?_)
      refine lv_iinc (v := x4 + 1) (lv' := [(4, .int (x4 + 1)), (3, .int (x3 + r22)), (0, .ref (gad G o 0)), (2, .int x2)]) X.hx X.hb dX5_plan_60 hl (k := 3) rfl rfl (by decide) rfl (fun ls hl => ?_)
      refine lv_goto (tgt := 30) X.hx X.hb dX5_plan_63 (by decide) ?_
      exact ih _ _ _ _  hf _ _ _ hH hS (lv_sub hl [2, 3, 1, 0] rfl)
set_option maxRecDepth 20000 in
set_option maxHeartbeats 4000000 in
theorem kX5_plan (l : Launch) {G : gG} {σ : Mem} {r : Int32} {σ' : Mem} {o : Nat} {x1 : Int32} {x2 : Int32} (ho : gsh G o = some 5)  (hf : fX5_plan σ o x1 x2 = some (r, σ')) : CM l yX5_plan cX5_plan 5 (some .int) 3 69 G σ [.ref (gad G o 0), .int x1, .int x2] (some (.int r)) σ' := by
  refine CM.of (by decide) (Nat.le_of_ble_eq_true rfl) (fun p e s m below meth c ls X hH hl => ?_)
  have X : gX p s m _ meth c yX5_plan cX5_plan 5 (some .int) RX5 G := X
  have hS : va_S (gAA G) s.heap s.heap [] := va_S.rf
  have hl : lv_has ls 5 [(0, .ref (gad G o 0)), (1, .int x1), (2, .int x2)] := hl
  rw [fX5_plan.eq_1] at hf
  refine lv_aload_n X.hx X.hb dX5_plan_0 rfl (lv_at hl 0 rfl) ?_
  refine lv_iload_n X.hx X.hb dX5_plan_1 rfl (lv_at hl 2 rfl) ?_
  obtain ⟨r24, hr, hf⟩ := bd_e hf
  refine g_callVI (As := [.int x2]) (rest := []) X (kX5_isNoneOrTraveller l ho hr) (C := RX5) (T := TX5) (N := 14) (ci := 5) rfl ho ⟨cdX5_isNoneOrTraveller, mlX5_170, imX5_isNoneOrTraveller, seX5_isNoneOrTraveller, iniX5⟩ hvX5_isNoneOrTraveller ⟨Nat.le_of_ble_eq_true rfl, Nat.le_of_ble_eq_true rfl⟩ hH hS hl rfl rfl (Nat.le_of_ble_eq_true rfl) ⟨Nat.le_refl 0, Nat.le_refl 0⟩ dX5_plan_2 (fun H locs hH hS => ?_)
  refine lv_if_eq (tgt := 23) X.hx X.hb dX5_plan_5 (by decide) (fun c25 => ?_) (fun c25 => ?_)
  · have hf := it_p hf c25
    refine lv_iconst (v := -1) X.hx X.hb dX5_plan_23 (by decide) ?_
    have e := so2 hf
    rw [e.2] at hH
    exact g_iret X hH hS rfl e.1 dX5_plan_24
  · have hf := it_n hf c25
    refine lv_aload_n X.hx X.hb dX5_plan_8 rfl (lv_at hl 0 rfl) ?_
    refine gfX5_51 X hH ho dX5_plan_9 ?_
    have h26 : gsh G (mP σ o 7) = some 3 := hH.2.2.1 _ _ _ _ ho rfl
    refine lv_aload_n X.hx X.hb dX5_plan_12 rfl (lv_at hl 0 rfl) ?_
    refine gfX5_19 X hH ho dX5_plan_13 ?_
    have h27 : gsh G (mP σ o 1) = some 1 := hH.2.2.1 _ _ _ _ ho rfl
    refine lv_iload_n X.hx X.hb dX5_plan_16 rfl (lv_at hl 1 rfl) ?_
    obtain ⟨r28, σ29, hr, hf⟩ := bd2_e hf
    refine g_callVI (As := [.ref (gad G (mP σ o 1) 0), .int x1]) (rest := []) X (kX3_readFigures l h26 h27 hr) (C := RX3) (T := TX3) (N := 5) (ci := 3) rfl h26 ⟨cdX3_readFigures, mlX5_184, imX3_readFigures, seX3_readFigures, iniX3⟩ hvX3_readFigures ⟨Nat.le_of_ble_eq_true rfl, Nat.le_of_ble_eq_true rfl⟩ hH hS hl rfl rfl (Nat.le_of_ble_eq_true rfl) ⟨Nat.le_refl 0, Nat.le_refl 0⟩ dX5_plan_17 (fun H locs hH hS => ?_)
    refine lv_if_ne (tgt := 25) X.hx X.hb dX5_plan_20 (by decide) (fun c30 => ?_) (fun c30 => ?_)
    · have hf := it_n hf c30
      refine lv_iconst (v := 0) X.hx X.hb dX5_plan_25 (by decide) ?_
      refine lv_istore_n (lv' := [(3, .int (0 : Int32)), (0, .ref (gad G o 0)), (1, .int x1), (2, .int x2)]) X.hx X.hb dX5_plan_26 rfl hl (by decide) rfl (fun ls hl => ?_)
      refine lv_iconst (v := 0) X.hx X.hb dX5_plan_27 (by decide) ?_
      refine lv_istore (lv' := [(4, .int (0 : Int32)), (3, .int (0 : Int32)), (0, .ref (gad G o 0)), (1, .int x1), (2, .int x2)]) X.hx X.hb dX5_plan_28 hl (by decide) rfl (fun ls hl => ?_)
      exact bX5_plan_30 X  ho  _ _ _ _ _  hf _ _ _ hH hS (lv_sub hl [2, 4, 1, 0] rfl)
    · have hf := it_p hf c30
      refine lv_iconst (v := -1) X.hx X.hb dX5_plan_23 (by decide) ?_
      have e := so2 hf
      rw [e.2] at hH
      exact g_iret X hH hS rfl e.1 dX5_plan_24
set_option maxRecDepth 20000 in
set_option maxHeartbeats 4000000 in
theorem kX5_waits (l : Launch) {G : gG} {σ : Mem} {r : Int32} {o : Nat} {x1 : Int32} (ho : gsh G o = some 5)  (hf : fX5_waits σ o x1 = some r) : CM l yX5_waits cX5_waits 2 (some .int) 3 65 G σ [.ref (gad G o 0), .int x1] (some (.int r)) σ := by
  refine CM.of (by decide) (Nat.le_of_ble_eq_true rfl) (fun p e s m below meth c ls X hH hl => ?_)
  have X : gX p s m _ meth c yX5_waits cX5_waits 2 (some .int) RX5 G := X
  have hS : va_S (gAA G) s.heap s.heap [] := va_S.rf
  have hl : lv_has ls 2 [(0, .ref (gad G o 0)), (1, .int x1)] := hl
  rw [fX5_waits.eq_1] at hf
  refine lv_aload_n X.hx X.hb dX5_waits_0 rfl (lv_at hl 0 rfl) ?_
  refine gfX5_19 X hH ho dX5_waits_1 ?_
  have h10 : gsh G (mP σ o 1) = some 1 := hH.2.2.1 _ _ _ _ ho rfl
  refine lv_iload_n X.hx X.hb dX5_waits_4 rfl (lv_at hl 1 rfl) ?_
  obtain ⟨r11, hr, hf⟩ := bd_e hf
  refine g_callVI (As := [.int x1]) (rest := []) X (kX1_hasTraveller l h10 hr) (C := RX1) (T := TX1) (N := 11) (ci := 1) rfl h10 ⟨cdX1_hasTraveller, mlX5_92, imX1_hasTraveller, seX1_hasTraveller, iniX1⟩ hvX1_hasTraveller ⟨Nat.le_of_ble_eq_true rfl, Nat.le_of_ble_eq_true rfl⟩ hH hS hl rfl rfl (Nat.le_of_ble_eq_true rfl) ⟨Nat.le_refl 0, Nat.le_refl 0⟩ dX5_waits_5 (fun H locs hH hS => ?_)
  refine lv_if_ne (tgt := 13) X.hx X.hb dX5_waits_8 (by decide) (fun c12 => ?_) (fun c12 => ?_)
  · have hf := it_n hf c12
    refine lv_aload_n X.hx X.hb dX5_waits_13 rfl (lv_at hl 0 rfl) ?_
    refine gfX5_29 X hH ho dX5_waits_14 ?_
    have h13 : gsh G (mP σ o 3) = some 2 := hH.2.2.1 _ _ _ _ ho rfl
    refine lv_iload_n X.hx X.hb dX5_waits_17 rfl (lv_at hl 1 rfl) ?_
    obtain ⟨r14, hr, hf⟩ := bd_e hf
    refine g_callVI (As := [.int x1]) (rest := []) X (kX2_rowOf l h13 hr) (C := RX2) (T := TX2) (N := 6) (ci := 2) rfl h13 ⟨cdX2_rowOf, mlX5_101, imX2_rowOf, seX2_rowOf, iniX2⟩ hvX2_rowOf ⟨Nat.le_of_ble_eq_true rfl, Nat.le_of_ble_eq_true rfl⟩ hH hS hl rfl rfl (Nat.le_of_ble_eq_true rfl) ⟨Nat.le_refl 0, Nat.le_refl 0⟩ dX5_waits_18 (fun H locs hH hS => ?_)
    refine lv_bipush (v := -9) X.hx X.hb dX5_waits_21 (by decide) ?_
    refine lv_icmp_ne (tgt := 29) X.hx X.hb dX5_waits_23 (by decide) (fun c15 => ?_) (fun c15 => ?_)
    · have hf := it_n hf c15
      refine lv_iconst (v := 0) X.hx X.hb dX5_waits_29 (by decide) ?_
      refine lv_aload_n X.hx X.hb dX5_waits_30 rfl (lv_at hl 0 rfl) ?_
      refine gfX5_19 X hH ho dX5_waits_31 ?_
      have h16 : gsh G (mP σ o 1) = some 1 := hH.2.2.1 _ _ _ _ ho rfl
      refine gfX5_129 X hH h16 dX5_waits_34 ?_
      refine lv_aload_n X.hx X.hb dX5_waits_37 rfl (lv_at hl 0 rfl) ?_
      refine gfX5_29 X hH ho dX5_waits_38 ?_
      have h17 : gsh G (mP σ o 3) = some 2 := hH.2.2.1 _ _ _ _ ho rfl
      refine lv_iload_n X.hx X.hb dX5_waits_41 rfl (lv_at hl 1 rfl) ?_
      obtain ⟨r18, hr, hf⟩ := bd_e hf
      refine g_callVI (As := [.int x1]) (rest := [.int (mI σ (mP σ o 1) 0), .int (0 : Int32)]) X (kX2_daysInRow l h17 hr) (C := RX2) (T := TX2) (N := 6) (ci := 2) rfl h17 ⟨cdX2_daysInRow, mlX5_105, imX2_daysInRow, seX2_daysInRow, iniX2⟩ hvX2_daysInRow ⟨Nat.le_of_ble_eq_true rfl, Nat.le_of_ble_eq_true rfl⟩ hH hS hl rfl rfl (Nat.le_of_ble_eq_true rfl) ⟨Nat.le_refl 0, Nat.le_refl 0⟩ dX5_waits_42 (fun H locs hH hS => ?_)
      refine lv_isub X.hx X.hb dX5_waits_45 ?_
      refine g_max X hl mlX5_195 (Nat.le_of_ble_eq_true rfl) (Nat.le_of_ble_eq_true rfl) ⟨Nat.le_refl 0, Nat.le_refl 0⟩ dX5_waits_46 ?_
      exact g_iret X hH hS rfl (so1 hf) dX5_waits_49
    · have hf := it_p hf c15
      refine lv_bipush (v := -2) X.hx X.hb dX5_waits_26 (by decide) ?_
      exact g_iret X hH hS rfl (so1 hf) dX5_waits_28
  · have hf := it_p hf c12
    refine lv_iconst (v := -1) X.hx X.hb dX5_waits_11 (by decide) ?_
    exact g_iret X hH hS rfl (so1 hf) dX5_waits_12
set_option maxRecDepth 20000 in
set_option maxHeartbeats 4000000 in
theorem bX5_boat_31 {p : Program} {l : Launch} {e : Env} {s : State} {m : MethodId} {args : Array Value} {below : List Frame} {meth : Method} {c : Code} {G : gG} (X : gX p s m args meth c yX5_boat cX5_boat 7 (some .int) RX5 G) {o : Nat} (ho : gsh G o = some 5)  {σ : Mem} {r : Int32} : (∀ (n : Nat) (x1 : Int32) (x2 : Int32) (x3 : Int32) (x4 : Int32) (x5 : Int32), fX5_boat_31 σ o n x1 x2 x3 x4 x5 = some r → ∀ (H : Heap) (locs : List Loc) (ls : Array Slot), gH G σ H → va_S (gAA G) s.heap H locs → lv_has ls 7 [(0, .ref (gad G o 0)), (1, .int x1), (2, .int x2), (3, .int x3), (4, .int x4), (5, .int x5)] → WB p l e 1 24 s m args below meth c G (some (.int r)) σ H locs (F0 m 31 ls [])) := by
  intro n
  induction n with
  | zero => intro x1 x2 x3 x4 x5 hf H locs ls hH hS hl; exact nomatch (show (none : Option Int32) = some _ from hf)
  | succ n ih =>
    intro x1 x2 x3 x4 x5 hf H locs ls hH hS hl
    rw [fX5_boat_31.eq_2] at hf
    refine lv_iload X.hx X.hb dX5_boat_31 (lv_at hl 5 rfl) ?_
    refine lv_iload_n X.hx X.hb dX5_boat_33 rfl (lv_at hl 1 rfl) ?_
    refine lv_icmp_gt (tgt := 106) X.hx X.hb dX5_boat_34 (by decide) (fun c18 => ?_) (fun c18 => ?_)
    · have hf := it_p hf c18
      refine lv_iload_n X.hx X.hb dX5_boat_106 rfl (lv_at hl 3 rfl) ?_
      refine lv_bipush (v := -9) X.hx X.hb dX5_boat_107 (by decide) ?_
      refine lv_icmp_ne (tgt := 115) X.hx X.hb dX5_boat_109 (by decide) (fun c19 => ?_) (fun c19 => ?_)
      · have hf := it_n hf c19
        refine lv_iload_n X.hx X.hb dX5_boat_115 rfl (lv_at hl 2 rfl) ?_
        refine lv_if_ne (tgt := 123) X.hx X.hb dX5_boat_116 (by decide) (fun c20 => ?_) (fun c20 => ?_)
        · have hf := it_n hf c20
          refine lv_iload X.hx X.hb dX5_boat_123 (lv_at hl 4 rfl) ?_
          exact g_iret X hH hS rfl (so1 hf) dX5_boat_125
        · have hf := it_p hf c20
          refine lv_iload_n X.hx X.hb dX5_boat_119 rfl (lv_at hl 3 rfl) ?_
          refine lv_goto (tgt := 125) X.hx X.hb dX5_boat_120 (by decide) ?_
          exact g_iret X hH hS rfl (so1 hf) dX5_boat_125
      · have hf := it_p hf c19
        refine lv_bipush (v := -9) X.hx X.hb dX5_boat_112 (by decide) ?_
        exact g_iret X hH hS rfl (so1 hf) dX5_boat_114
    · have hf := it_n hf c18
      refine lv_aload_n X.hx X.hb dX5_boat_37 rfl (lv_at hl 0 rfl) ?_
      refine gfX5_29 X hH ho dX5_boat_38 ?_
      have h21 : gsh G (mP σ o 3) = some 2 := hH.2.2.1 _ _ _ _ ho rfl
      refine lv_aload_n X.hx X.hb dX5_boat_41 rfl (lv_at hl 0 rfl) ?_
      refine gfX5_19 X hH ho dX5_boat_42 ?_
      have h22 : gsh G (mP σ o 1) = some 1 := hH.2.2.1 _ _ _ _ ho rfl
      refine gfX5_129 X hH h22 dX5_boat_45 ?_
      refine lv_iload X.hx X.hb dX5_boat_48 (lv_at hl 5 rfl) ?_
      obtain ⟨r23, hr, hf⟩ := bd_e hf
      refine g_callVI (As := [.int (mI σ (mP σ o 1) 0), .int x5]) (rest := []) X (kX2_mayLeave l h21 hr) (C := RX2) (T := TX2) (N := 6) (ci := 2) rfl h21 ⟨cdX2_mayLeave, mlX5_132, imX2_mayLeave, seX2_mayLeave, iniX2⟩ hvX2_mayLeave ⟨Nat.le_of_ble_eq_true rfl, Nat.le_of_ble_eq_true rfl⟩ hH hS hl rfl rfl (Nat.le_of_ble_eq_true rfl) ⟨Nat.le_refl 0, Nat.le_refl 0⟩ dX5_boat_50 (fun H locs hH hS => ?_)
      obtain ⟨r24, hr, hf⟩ := bd_e hf
      refine g_callSI (As := [.int r23]) (rest := []) X (kJ6_bitCount_0f7a4 l  hr) ⟨cdJ6_bitCount_0f7a4, mlX5_155, stJ6_bitCount_0f7a4, iniJ6⟩ hsJ6_bitCount_0f7a4 ⟨Nat.le_of_ble_eq_true rfl, Nat.le_of_ble_eq_true rfl⟩ hH hS hl rfl rfl (Nat.le_of_ble_eq_true rfl) ⟨Nat.le_refl 0, Nat.le_refl 0⟩ dX5_boat_53 (fun H locs hH hS => ?_)
      refine lv_istore (lv' := [(6, .int r24), (0, .ref (gad G o 0)), (1, .int x1), (2, .int x2), (3, .int x3), (4, .int x4), (5, .int x5)]) X.hx X.hb dX5_boat_56 hl (by decide) rfl (fun ls hl => ?_)
      refine lv_iload X.hx X.hb dX5_boat_58 (lv_at hl 0 rfl) ?_
      refine lv_iload X.hx X.hb dX5_boat_60 (lv_at hl 5 rfl) ?_
      refine lv_icmp_le (tgt := 100) X.hx X.hb dX5_boat_62 (by decide) (fun c25 => ?_) (fun c25 => ?_)
      · have hf := it_p hf c25
        refine lv_iinc (v := x5 + 1) (lv' := [(5, .int (x5 + 1)), (6, .int r24), (0, .ref (gad G o 0)), (1, .int x1), (2, .int x2), (3, .int x3), (4, .int x4)]) X.hx X.hb dX5_boat_100 hl (k := 6) rfl rfl (by decide) rfl (fun ls hl => ?_)
        refine lv_goto (tgt := 31) X.hx X.hb dX5_boat_103 (by decide) ?_
        exact ih _ _ _ _ _  hf _ _ _ hH hS (lv_sub hl [2, 3, 4, 5, 6, 0] rfl)
      · have hf := it_n hf c25
        refine lv_aload_n X.hx X.hb dX5_boat_65 rfl (lv_at hl 1 rfl) ?_
        refine gfX5_19 X hH ho dX5_boat_66 ?_
        have h26 : gsh G (mP σ o 1) = some 1 := hH.2.2.1 _ _ _ _ ho rfl
        refine lv_aload_n X.hx X.hb dX5_boat_69 rfl (lv_at hl 1 rfl) ?_
        refine gfX5_29 X hH ho dX5_boat_70 ?_
        have h27 : gsh G (mP σ o 3) = some 2 := hH.2.2.1 _ _ _ _ ho rfl
        refine gfX5_123 X hH h27 dX5_boat_73 ?_
        refine lv_iload X.hx X.hb dX5_boat_76 (lv_at hl 6 rfl) ?_
        refine lv_iadd X.hx X.hb dX5_boat_78 ?_
        obtain ⟨r28, hr, hf⟩ := bd_e hf
        refine g_callVI (As := [.int ((mI σ (mP σ o 3) 0) + x5)]) (rest := []) X (kX1_boatSailsOn l h26 hr) (C := RX1) (T := TX1) (N := 11) (ci := 1) rfl h26 ⟨cdX1_boatSailsOn, mlX5_139, imX1_boatSailsOn, seX1_boatSailsOn, iniX1⟩ hvX1_boatSailsOn ⟨Nat.le_of_ble_eq_true rfl, Nat.le_of_ble_eq_true rfl⟩ hH hS hl rfl rfl (Nat.le_of_ble_eq_true rfl) ⟨Nat.le_refl 0, Nat.le_refl 0⟩ dX5_boat_79 (fun H locs hH hS => ?_)
        refine lv_if_eq (tgt := 100) X.hx X.hb dX5_boat_82 (by decide) (fun c29 => ?_) (fun c29 => ?_)
        · have hf := it_p hf c29
          refine lv_iinc (v := x5 + 1) (lv' := [(5, .int (x5 + 1)), (6, .int r24), (0, .ref (gad G o 0)), (1, .int x1), (2, .int x2), (3, .int x3), (4, .int x4)]) X.hx X.hb dX5_boat_100 hl (k := 6) rfl rfl (by decide) rfl (fun ls hl => ?_)
          refine lv_goto (tgt := 31) X.hx X.hb dX5_boat_103 (by decide) ?_
          exact ih _ _ _ _ _  hf _ _ _ hH hS (lv_sub hl [2, 3, 4, 5, 6, 0] rfl)
        · have hf := it_n hf c29
          refine lv_iload X.hx X.hb dX5_boat_85 (lv_at hl 0 rfl) ?_
          refine lv_istore (lv' := [(4, .int r24), (6, .int r24), (0, .ref (gad G o 0)), (1, .int x1), (2, .int x2), (3, .int x3), (5, .int x5)]) X.hx X.hb dX5_boat_87 hl (by decide) rfl (fun ls hl => ?_)
          refine lv_aload_n X.hx X.hb dX5_boat_89 rfl (lv_at hl 2 rfl) ?_
          refine gfX5_29 X hH ho dX5_boat_90 ?_
          have h30 : gsh G (mP σ o 3) = some 2 := hH.2.2.1 _ _ _ _ ho rfl
          refine gfX5_123 X hH h30 dX5_boat_93 ?_
          refine lv_iload X.hx X.hb dX5_boat_96 (lv_at hl 6 rfl) ?_
          refine lv_iadd X.hx X.hb dX5_boat_98 ?_
          refine lv_istore_n (lv' := [(3, .int ((mI σ (mP σ o 3) 0) + x5)), (4, .int r24), (6, .int r24), (0, .ref (gad G o 0)), (1, .int x1), (2, .int x2), (5, .int x5)]) X.hx X.hb dX5_boat_99 rfl hl (by decide) rfl (fun ls hl => ?_)
          refine lv_iinc (v := x5 + 1) (lv' := [(5, .int (x5 + 1)), (3, .int ((mI σ (mP σ o 3) 0) + x5)), (4, .int r24), (6, .int r24), (0, .ref (gad G o 0)), (1, .int x1), (2, .int x2)]) X.hx X.hb dX5_boat_100 hl (k := 6) rfl rfl (by decide) rfl (fun ls hl => ?_)
          refine lv_goto (tgt := 31) X.hx X.hb dX5_boat_103 (by decide) ?_
          exact ih _ _ _ _ _  hf _ _ _ hH hS (lv_sub hl [4, 5, 6, 1, 2, 0] rfl)
set_option maxRecDepth 20000 in
set_option maxHeartbeats 4000000 in
theorem kX5_boat (l : Launch) {G : gG} {σ : Mem} {r : Int32} {o : Nat} {x1 : Int32} {x2 : Int32} (ho : gsh G o = some 5)  (hf : fX5_boat σ o x1 x2 = some r) : CM l yX5_boat cX5_boat 7 (some .int) 1 24 G σ [.ref (gad G o 0), .int x1, .int x2] (some (.int r)) σ := by
  refine CM.of (by decide) (Nat.le_of_ble_eq_true rfl) (fun p e s m below meth c ls X hH hl => ?_)
  have X : gX p s m _ meth c yX5_boat cX5_boat 7 (some .int) RX5 G := X
  have hS : va_S (gAA G) s.heap s.heap [] := va_S.rf
  have hl : lv_has ls 7 [(0, .ref (gad G o 0)), (1, .int x1), (2, .int x2)] := hl
  rw [fX5_boat.eq_1] at hf
  refine lv_iload_n X.hx X.hb dX5_boat_0 rfl (lv_at hl 1 rfl) ?_
  refine lv_iconst (v := 1) X.hx X.hb dX5_boat_1 (by decide) ?_
  refine lv_icmp_lt (tgt := 20) X.hx X.hb dX5_boat_2 (by decide) (fun c31 => ?_) (fun c31 => ?_)
  · have hf := it_p hf c31
    refine lv_iconst (v := -1) X.hx X.hb dX5_boat_20 (by decide) ?_
    exact g_iret X hH hS rfl (so1 hf) dX5_boat_21
  · have hf := it_n hf c31
    refine lv_iload_n X.hx X.hb dX5_boat_5 rfl (lv_at hl 1 rfl) ?_
    refine lv_bipush (v := 60) X.hx X.hb dX5_boat_6 (by decide) ?_
    refine lv_icmp_gt (tgt := 20) X.hx X.hb dX5_boat_8 (by decide) (fun c32 => ?_) (fun c32 => ?_)
    · have hf := it_p hf c32
      refine lv_iconst (v := -1) X.hx X.hb dX5_boat_20 (by decide) ?_
      exact g_iret X hH hS rfl (so1 hf) dX5_boat_21
    · have hf := it_n hf c32
      refine lv_iload_n X.hx X.hb dX5_boat_11 rfl (lv_at hl 2 rfl) ?_
      refine lv_if_lt (tgt := 20) X.hx X.hb dX5_boat_12 (by decide) (fun c33 => ?_) (fun c33 => ?_)
      · have hf := it_p hf c33
        refine lv_iconst (v := -1) X.hx X.hb dX5_boat_20 (by decide) ?_
        exact g_iret X hH hS rfl (so1 hf) dX5_boat_21
      · have hf := it_n hf c33
        refine lv_iload_n X.hx X.hb dX5_boat_15 rfl (lv_at hl 2 rfl) ?_
        refine lv_iconst (v := 1) X.hx X.hb dX5_boat_16 (by decide) ?_
        refine lv_icmp_le (tgt := 22) X.hx X.hb dX5_boat_17 (by decide) (fun c34 => ?_) (fun c34 => ?_)
        · have hf := it_p hf c34
          refine lv_bipush (v := -9) X.hx X.hb dX5_boat_22 (by decide) ?_
          refine lv_istore_n (lv' := [(3, .int (-9 : Int32)), (0, .ref (gad G o 0)), (1, .int x1), (2, .int x2)]) X.hx X.hb dX5_boat_24 rfl hl (by decide) rfl (fun ls hl => ?_)
          refine lv_iconst (v := 0) X.hx X.hb dX5_boat_25 (by decide) ?_
          refine lv_istore (lv' := [(4, .int (0 : Int32)), (3, .int (-9 : Int32)), (0, .ref (gad G o 0)), (1, .int x1), (2, .int x2)]) X.hx X.hb dX5_boat_26 hl (by decide) rfl (fun ls hl => ?_)
          refine lv_iconst (v := 0) X.hx X.hb dX5_boat_28 (by decide) ?_
          refine lv_istore (lv' := [(5, .int (0 : Int32)), (4, .int (0 : Int32)), (3, .int (-9 : Int32)), (0, .ref (gad G o 0)), (1, .int x1), (2, .int x2)]) X.hx X.hb dX5_boat_29 hl (by decide) rfl (fun ls hl => ?_)
          exact bX5_boat_31 X  ho  _ _ _ _ _ _  hf _ _ _ hH hS (lv_sub hl [3, 4, 5, 2, 1, 0] rfl)
        · have hf := it_n hf c34
          refine lv_iconst (v := -1) X.hx X.hb dX5_boat_20 (by decide) ?_
          exact g_iret X hH hS rfl (so1 hf) dX5_boat_21
set_option maxRecDepth 20000 in
set_option maxHeartbeats 4000000 in
theorem bX5_inLeastTerms_39 {p : Program} {l : Launch} {e : Env} {s : State} {m : MethodId} {args : Array Value} {below : List Frame} {meth : Method} {c : Code} {G : gG} (X : gX p s m args meth c yX5_inLeastTerms cX5_inLeastTerms 7 (some .int) RX5 G)  {σ : Mem} {r : Int32} : (∀ (x0 : Int32) (x1 : Int32) (x2 : Int32) (x3 : Int32), fX5_inLeastTerms_39 x0 x1 x2 x3 = some r → ∀ (H : Heap) (locs : List Loc) (ls : Array Slot), gH G σ H → va_S (gAA G) s.heap H locs → lv_has ls 7 [(0, .int x0), (1, .int x1), (2, .int x2), (3, .int x3)] → WB p l e 0 0 s m args below meth c G (some (.int r)) σ H locs (F0 m 39 ls [])) := by
  intro x0 x1 x2 x3 hf H locs ls hH hS hl
  rw [fX5_inLeastTerms_39.eq_1] at hf
  refine lv_iload_n X.hx X.hb dX5_inLeastTerms_39 rfl (lv_at hl 3 rfl) ?_
  refine lv_if_ne (tgt := 45) X.hx X.hb dX5_inLeastTerms_40 (by decide) (fun c5 => ?_) (fun c5 => ?_)
  · have hf := it_n hf c5
    refine lv_iload_n X.hx X.hb dX5_inLeastTerms_45 rfl (lv_at hl 2 rfl) ?_
    refine lv_if_ne (tgt := 53) X.hx X.hb dX5_inLeastTerms_46 (by decide) (fun c6 => ?_) (fun c6 => ?_)
    · have hf := it_n hf c6
      refine lv_iload_n X.hx X.hb dX5_inLeastTerms_53 rfl (lv_at hl 1 rfl) ?_
      refine lv_iload_n X.hx X.hb dX5_inLeastTerms_54 rfl (lv_at hl 3 rfl) ?_
      obtain ⟨hg, hf⟩ := gd_e hf
      refine lv_idiv X.hx X.hb dX5_inLeastTerms_55 (of_decide_eq_true hg) ?_
      exact g_iret X hH hS rfl (so1 hf) dX5_inLeastTerms_56
    · have hf := it_p hf c6
      refine lv_iload_n X.hx X.hb dX5_inLeastTerms_49 rfl (lv_at hl 0 rfl) ?_
      refine lv_goto (tgt := 54) X.hx X.hb dX5_inLeastTerms_50 (by decide) ?_
      refine lv_iload_n X.hx X.hb dX5_inLeastTerms_54 rfl (lv_at hl 3 rfl) ?_
      obtain ⟨hg, hf⟩ := gd_e hf
      refine lv_idiv X.hx X.hb dX5_inLeastTerms_55 (of_decide_eq_true hg) ?_
      exact g_iret X hH hS rfl (so1 hf) dX5_inLeastTerms_56
  · have hf := it_p hf c5
    refine lv_iconst (v := -1) X.hx X.hb dX5_inLeastTerms_43 (by decide) ?_
    exact g_iret X hH hS rfl (so1 hf) dX5_inLeastTerms_44
set_option maxRecDepth 20000 in
set_option maxHeartbeats 4000000 in
theorem bX5_inLeastTerms_8 {p : Program} {l : Launch} {e : Env} {s : State} {m : MethodId} {args : Array Value} {below : List Frame} {meth : Method} {c : Code} {G : gG} (X : gX p s m args meth c yX5_inLeastTerms cX5_inLeastTerms 7 (some .int) RX5 G)  {σ : Mem} {r : Int32} : (∀ (n : Nat) (x0 : Int32) (x1 : Int32) (x2 : Int32) (x3 : Int32) (x4 : Int32) (x5 : Int32), fX5_inLeastTerms_8 n x0 x1 x2 x3 x4 x5 = some r → ∀ (H : Heap) (locs : List Loc) (ls : Array Slot), gH G σ H → va_S (gAA G) s.heap H locs → lv_has ls 7 [(0, .int x0), (1, .int x1), (2, .int x2), (3, .int x3), (4, .int x4), (5, .int x5)] → WB p l e 0 0 s m args below meth c G (some (.int r)) σ H locs (F0 m 8 ls [])) := by
  intro n
  induction n with
  | zero => intro x0 x1 x2 x3 x4 x5 hf H locs ls hH hS hl; exact nomatch (show (none : Option Int32) = some _ from hf)
  | succ n ih =>
    intro x0 x1 x2 x3 x4 x5 hf H locs ls hH hS hl
    rw [fX5_inLeastTerms_8.eq_2] at hf
    refine lv_iload X.hx X.hb dX5_inLeastTerms_8 (lv_at hl 5 rfl) ?_
    refine lv_bipush (v := 64) X.hx X.hb dX5_inLeastTerms_10 (by decide) ?_
    refine lv_icmp_ge (tgt := 39) X.hx X.hb dX5_inLeastTerms_12 (by decide) (fun c7 => ?_) (fun c7 => ?_)
    · have hf := it_p hf c7
      exact bX5_inLeastTerms_39 X     _ _ _ _  hf _ _ _ hH hS (lv_sub hl [0, 1, 2, 3] rfl)
    · have hf := it_n hf c7
      refine lv_iload X.hx X.hb dX5_inLeastTerms_15 (lv_at hl 4 rfl) ?_
      refine lv_if_eq (tgt := 39) X.hx X.hb dX5_inLeastTerms_17 (by decide) (fun c8 => ?_) (fun c8 => ?_)
      · have hf := it_p hf c8
        exact bX5_inLeastTerms_39 X     _ _ _ _  hf _ _ _ hH hS (lv_sub hl [0, 1, 2, 3] rfl)
      · have hf := it_n hf c8
        refine lv_iload_n X.hx X.hb dX5_inLeastTerms_20 rfl (lv_at hl 3 rfl) ?_
        refine lv_iload X.hx X.hb dX5_inLeastTerms_21 (lv_at hl 4 rfl) ?_
        obtain ⟨hg, hf⟩ := gd_e hf
        refine lv_irem X.hx X.hb dX5_inLeastTerms_23 (of_decide_eq_true hg) ?_
        refine lv_istore (lv' := [(6, .int (x3 - x3 / x4 * x4)), (0, .int x0), (1, .int x1), (2, .int x2), (3, .int x3), (4, .int x4), (5, .int x5)]) X.hx X.hb dX5_inLeastTerms_24 hl (by decide) rfl (fun ls hl => ?_)
        refine lv_iload X.hx X.hb dX5_inLeastTerms_26 (lv_at hl 5 rfl) ?_
        refine lv_istore_n (lv' := [(3, .int x4), (6, .int (x3 - x3 / x4 * x4)), (0, .int x0), (1, .int x1), (2, .int x2), (4, .int x4), (5, .int x5)]) X.hx X.hb dX5_inLeastTerms_28 rfl hl (by decide) rfl (fun ls hl => ?_)
        refine lv_iload X.hx X.hb dX5_inLeastTerms_29 (lv_at hl 1 rfl) ?_
        refine lv_istore (lv' := [(4, .int (x3 - x3 / x4 * x4)), (3, .int x4), (6, .int (x3 - x3 / x4 * x4)), (0, .int x0), (1, .int x1), (2, .int x2), (5, .int x5)]) X.hx X.hb dX5_inLeastTerms_31 hl (by decide) rfl (fun ls hl => ?_)
        refine lv_iinc (v := x5 + 1) (lv' := [(5, .int (x5 + 1)), (4, .int (x3 - x3 / x4 * x4)), (3, .int x4), (6, .int (x3 - x3 / x4 * x4)), (0, .int x0), (1, .int x1), (2, .int x2)]) X.hx X.hb dX5_inLeastTerms_33 hl (k := 6) rfl rfl (by decide) rfl (fun ls hl => ?_)
        refine lv_goto (tgt := 8) X.hx X.hb dX5_inLeastTerms_36 (by decide) ?_
        exact ih _ _ _ _ _ _  hf _ _ _ hH hS (lv_sub hl [4, 5, 6, 2, 1, 0] rfl)
set_option maxRecDepth 20000 in
set_option maxHeartbeats 4000000 in
theorem kX5_inLeastTerms (l : Launch) {G : gG} {σ : Mem} {r : Int32} {x0 : Int32} {x1 : Int32} {x2 : Int32}  (hf : fX5_inLeastTerms x0 x1 x2 = some r) : CM l yX5_inLeastTerms cX5_inLeastTerms 7 (some .int) 0 0 G σ [.int x0, .int x1, .int x2] (some (.int r)) σ := by
  refine CM.of (by decide) (Nat.le_of_ble_eq_true rfl) (fun p e s m below meth c ls X hH hl => ?_)
  have X : gX p s m _ meth c yX5_inLeastTerms cX5_inLeastTerms 7 (some .int) RX5 G := X
  have hS : va_S (gAA G) s.heap s.heap [] := va_S.rf
  have hl : lv_has ls 7 [(0, .int x0), (1, .int x1), (2, .int x2)] := hl
  rw [fX5_inLeastTerms.eq_1] at hf
  refine lv_iload_n X.hx X.hb dX5_inLeastTerms_0 rfl (lv_at hl 1 rfl) ?_
  refine lv_istore_n (lv' := [(3, .int x1), (0, .int x0), (1, .int x1), (2, .int x2)]) X.hx X.hb dX5_inLeastTerms_1 rfl hl (by decide) rfl (fun ls hl => ?_)
  refine lv_iload_n X.hx X.hb dX5_inLeastTerms_2 rfl (lv_at hl 1 rfl) ?_
  refine lv_istore (lv' := [(4, .int x0), (3, .int x1), (0, .int x0), (1, .int x1), (2, .int x2)]) X.hx X.hb dX5_inLeastTerms_3 hl (by decide) rfl (fun ls hl => ?_)
  refine lv_iconst (v := 0) X.hx X.hb dX5_inLeastTerms_5 (by decide) ?_
  refine lv_istore (lv' := [(5, .int (0 : Int32)), (4, .int x0), (3, .int x1), (0, .int x0), (1, .int x1), (2, .int x2)]) X.hx X.hb dX5_inLeastTerms_6 hl (by decide) rfl (fun ls hl => ?_)
  exact bX5_inLeastTerms_8 X    _ _ _ _ _ _ _  hf _ _ _ hH hS (lv_sub hl [3, 4, 5, 2, 1, 0] rfl)
set_option maxRecDepth 20000 in
set_option maxHeartbeats 4000000 in
theorem bX5_clean_32 {p : Program} {l : Launch} {e : Env} {s : State} {m : MethodId} {args : Array Value} {below : List Frame} {meth : Method} {c : Code} {G : gG} (X : gX p s m args meth c yX5_clean cX5_clean 6 (some .long) RX5 G) {o : Nat} (ho : gsh G o = some 5)  {σ : Mem} {r : Int64} : (∀ (n : Nat) (x1 : Int32) (x2 : Int32) (x3 : Int32) (x4 : Int32) (x5 : Int32), fX5_clean_32 σ o n x1 x2 x3 x4 x5 = some r → ∀ (H : Heap) (locs : List Loc) (ls : Array Slot), gH G σ H → va_S (gAA G) s.heap H locs → lv_has ls 6 [(0, .ref (gad G o 0)), (1, .int x1), (2, .int x2), (3, .int x3), (4, .int x4), (5, .int x5)] → WB p l e 1 26 s m args below meth c G (some (.long r)) σ H locs (F0 m 32 ls [])) := by
  intro n
  induction n with
  | zero => intro x1 x2 x3 x4 x5 hf H locs ls hH hS hl; exact nomatch (show (none : Option Int64) = some _ from hf)
  | succ n ih =>
    intro x1 x2 x3 x4 x5 hf H locs ls hH hS hl
    rw [fX5_clean_32.eq_2] at hf
    refine lv_iload X.hx X.hb dX5_clean_32 (lv_at hl 5 rfl) ?_
    refine lv_aload_n X.hx X.hb dX5_clean_34 rfl (lv_at hl 0 rfl) ?_
    refine gfX5_19 X hH ho dX5_clean_35 ?_
    have h12 : gsh G (mP σ o 1) = some 1 := hH.2.2.1 _ _ _ _ ho rfl
    refine gfX5_202 X hH h12 dX5_clean_38 ?_
    refine lv_icmp_ge (tgt := 90) X.hx X.hb dX5_clean_41 (by decide) (fun c13 => ?_) (fun c13 => ?_)
    · have hf := it_p hf c13
      refine lv_iload_n X.hx X.hb dX5_clean_90 rfl (lv_at hl 3 rfl) ?_
      refine lv_iload X.hx X.hb dX5_clean_91 (lv_at hl 4 rfl) ?_
      refine lv_iload_n X.hx X.hb dX5_clean_93 rfl (lv_at hl 2 rfl) ?_
      obtain ⟨r14, hr, hf⟩ := bd_e hf
      refine g_callSI (As := [.int x3, .int x4, .int x2]) (rest := []) X (kX5_inLeastTerms l  hr) ⟨cdX5_inLeastTerms, mlX5_205, stX5_inLeastTerms, iniX5⟩ hsX5_inLeastTerms ⟨Nat.le_of_ble_eq_true rfl, Nat.le_of_ble_eq_true rfl⟩ hH hS hl rfl rfl (Nat.le_of_ble_eq_true rfl) ⟨Nat.le_refl 0, Nat.le_refl 0⟩ dX5_clean_94 (fun H locs hH hS => ?_)
      refine lv_i2l X.hx X.hb dX5_clean_97 rfl ?_
      exact g_lret X hH hS rfl (so1 hf) dX5_clean_98
    · have hf := it_n hf c13
      refine lv_aload_n X.hx X.hb dX5_clean_44 rfl (lv_at hl 0 rfl) ?_
      refine gfX5_29 X hH ho dX5_clean_45 ?_
      have h15 : gsh G (mP σ o 3) = some 2 := hH.2.2.1 _ _ _ _ ho rfl
      refine gfX5_149 X hH h15 dX5_clean_48 ?_
      refine lv_iload_n X.hx X.hb dX5_clean_51 rfl (lv_at hl 1 rfl) ?_
      obtain ⟨hg, hf⟩ := gd_e hf
      refine g_iald X hH ⟨_, h15, rfl⟩ hg dX5_clean_52 ?_
      refine lv_iload X.hx X.hb dX5_clean_53 (lv_at hl 5 rfl) ?_
      refine lv_ishr X.hx X.hb dX5_clean_55 ?_
      refine lv_iconst (v := 1) X.hx X.hb dX5_clean_56 (by decide) ?_
      refine lv_iand X.hx X.hb dX5_clean_57 ?_
      refine lv_if_eq (tgt := 84) X.hx X.hb dX5_clean_58 (by decide) (fun c16 => ?_) (fun c16 => ?_)
      · have hf := it_p hf c16
        refine lv_iinc (v := x5 + 1) (lv' := [(5, .int (x5 + 1)), (0, .ref (gad G o 0)), (1, .int x1), (2, .int x2), (3, .int x3), (4, .int x4)]) X.hx X.hb dX5_clean_84 hl (k := 5) rfl rfl (by decide) rfl (fun ls hl => ?_)
        refine lv_goto (tgt := 32) X.hx X.hb dX5_clean_87 (by decide) ?_
        exact ih _ _ _ _ _  hf _ _ _ hH hS (lv_sub hl [1, 2, 3, 4, 5, 0] rfl)
      · have hf := it_n hf c16
        refine lv_iload_n X.hx X.hb dX5_clean_61 rfl (lv_at hl 3 rfl) ?_
        refine lv_bipush (v := 10) X.hx X.hb dX5_clean_62 (by decide) ?_
        refine lv_aload_n X.hx X.hb dX5_clean_64 rfl (lv_at hl 0 rfl) ?_
        refine gfX5_19 X hH ho dX5_clean_65 ?_
        have h17 : gsh G (mP σ o 1) = some 1 := hH.2.2.1 _ _ _ _ ho rfl
        refine gfX5_98 X hH h17 dX5_clean_68 ?_
        refine lv_iload X.hx X.hb dX5_clean_71 (lv_at hl 5 rfl) ?_
        obtain ⟨hg, hf⟩ := gd_e hf
        refine g_iald X hH ⟨_, h17, rfl⟩ hg dX5_clean_73 ?_
        refine lv_isub X.hx X.hb dX5_clean_74 ?_
        refine lv_imul X.hx X.hb dX5_clean_75 ?_
        refine lv_istore_n (lv' := [(3, .int (x3 * ((10 : Int32) - (mA σ (mP σ o 1) 6 x5.toNatClampNeg)))), (0, .ref (gad G o 0)), (1, .int x1), (2, .int x2), (4, .int x4), (5, .int x5)]) X.hx X.hb dX5_clean_76 rfl hl (by decide) rfl (fun ls hl => ?_)
        refine lv_iload X.hx X.hb dX5_clean_77 (lv_at hl 4 rfl) ?_
        refine lv_bipush (v := 10) X.hx X.hb dX5_clean_79 (by decide) ?_
        refine lv_imul X.hx X.hb dX5_clean_81 ?_
        refine lv_istore (lv' := [(4, .int (x4 * (10 : Int32))), (3, .int (x3 * ((10 : Int32) - (mA σ (mP σ o 1) 6 x5.toNatClampNeg)))), (0, .ref (gad G o 0)), (1, .int x1), (2, .int x2), (5, .int x5)]) X.hx X.hb dX5_clean_82 hl (by decide) rfl (fun ls hl => ?_)
        refine lv_iinc (v := x5 + 1) (lv' := [(5, .int (x5 + 1)), (4, .int (x4 * (10 : Int32))), (3, .int (x3 * ((10 : Int32) - (mA σ (mP σ o 1) 6 x5.toNatClampNeg)))), (0, .ref (gad G o 0)), (1, .int x1), (2, .int x2)]) X.hx X.hb dX5_clean_84 hl (k := 5) rfl rfl (by decide) rfl (fun ls hl => ?_)
        refine lv_goto (tgt := 32) X.hx X.hb dX5_clean_87 (by decide) ?_
        exact ih _ _ _ _ _  hf _ _ _ hH hS (lv_sub hl [3, 4, 5, 2, 1, 0] rfl)
set_option maxRecDepth 20000 in
set_option maxHeartbeats 4000000 in
theorem kX5_clean (l : Launch) {G : gG} {σ : Mem} {r : Int64} {o : Nat} {x1 : Int32} {x2 : Int32} (ho : gsh G o = some 5)  (hf : fX5_clean σ o x1 x2 = some r) : CM l yX5_clean cX5_clean 6 (some .long) 1 26 G σ [.ref (gad G o 0), .int x1, .int x2] (some (.long r)) σ := by
  refine CM.of (by decide) (Nat.le_of_ble_eq_true rfl) (fun p e s m below meth c ls X hH hl => ?_)
  have X : gX p s m _ meth c yX5_clean cX5_clean 6 (some .long) RX5 G := X
  have hS : va_S (gAA G) s.heap s.heap [] := va_S.rf
  have hl : lv_has ls 6 [(0, .ref (gad G o 0)), (1, .int x1), (2, .int x2)] := hl
  rw [fX5_clean.eq_1] at hf
  refine lv_aload_n X.hx X.hb dX5_clean_0 rfl (lv_at hl 0 rfl) ?_
  refine gfX5_19 X hH ho dX5_clean_1 ?_
  have h18 : gsh G (mP σ o 1) = some 1 := hH.2.2.1 _ _ _ _ ho rfl
  refine lv_iload_n X.hx X.hb dX5_clean_4 rfl (lv_at hl 1 rfl) ?_
  obtain ⟨r19, hr, hf⟩ := bd_e hf
  refine g_callVI (As := [.int x1]) (rest := []) X (kX1_hasRow l h18 hr) (C := RX1) (T := TX1) (N := 11) (ci := 1) rfl h18 ⟨cdX1_hasRow, mlX5_142, imX1_hasRow, seX1_hasRow, iniX1⟩ hvX1_hasRow ⟨Nat.le_of_ble_eq_true rfl, Nat.le_of_ble_eq_true rfl⟩ hH hS hl rfl rfl (Nat.le_of_ble_eq_true rfl) ⟨Nat.le_refl 0, Nat.le_refl 0⟩ dX5_clean_5 (fun H locs hH hS => ?_)
  refine lv_if_eq (tgt := 20) X.hx X.hb dX5_clean_8 (by decide) (fun c20 => ?_) (fun c20 => ?_)
  · have hf := it_p hf c20
    refine lv_ldc2 X.hx X.hb X.hown (X.w kcX5_200) dX5_clean_20 ?_
    exact g_lret X hH hS rfl (so1 hf) dX5_clean_23
  · have hf := it_n hf c20
    refine lv_iload_n X.hx X.hb dX5_clean_11 rfl (lv_at hl 2 rfl) ?_
    refine lv_if_lt (tgt := 20) X.hx X.hb dX5_clean_12 (by decide) (fun c21 => ?_) (fun c21 => ?_)
    · have hf := it_p hf c21
      refine lv_ldc2 X.hx X.hb X.hown (X.w kcX5_200) dX5_clean_20 ?_
      exact g_lret X hH hS rfl (so1 hf) dX5_clean_23
    · have hf := it_n hf c21
      refine lv_iload_n X.hx X.hb dX5_clean_15 rfl (lv_at hl 2 rfl) ?_
      refine lv_iconst (v := 1) X.hx X.hb dX5_clean_16 (by decide) ?_
      refine lv_icmp_le (tgt := 24) X.hx X.hb dX5_clean_17 (by decide) (fun c22 => ?_) (fun c22 => ?_)
      · have hf := it_p hf c22
        refine lv_iconst (v := 1) X.hx X.hb dX5_clean_24 (by decide) ?_
        refine lv_istore_n (lv' := [(3, .int (1 : Int32)), (0, .ref (gad G o 0)), (1, .int x1), (2, .int x2)]) X.hx X.hb dX5_clean_25 rfl hl (by decide) rfl (fun ls hl => ?_)
        refine lv_iconst (v := 1) X.hx X.hb dX5_clean_26 (by decide) ?_
        refine lv_istore (lv' := [(4, .int (1 : Int32)), (3, .int (1 : Int32)), (0, .ref (gad G o 0)), (1, .int x1), (2, .int x2)]) X.hx X.hb dX5_clean_27 hl (by decide) rfl (fun ls hl => ?_)
        refine lv_iconst (v := 0) X.hx X.hb dX5_clean_29 (by decide) ?_
        refine lv_istore (lv' := [(5, .int (0 : Int32)), (4, .int (1 : Int32)), (3, .int (1 : Int32)), (0, .ref (gad G o 0)), (1, .int x1), (2, .int x2)]) X.hx X.hb dX5_clean_30 hl (by decide) rfl (fun ls hl => ?_)
        exact bX5_clean_32 X  ho  _ _ _ _ _ _  hf _ _ _ hH hS (lv_sub hl [3, 4, 5, 2, 1, 0] rfl)
      · have hf := it_n hf c22
        refine lv_ldc2 X.hx X.hb X.hown (X.w kcX5_200) dX5_clean_20 ?_
        exact g_lret X hH hS rfl (so1 hf) dX5_clean_23
set_option maxRecDepth 20000 in
set_option maxHeartbeats 4000000 in
theorem bX5_countSickWays_50 {p : Program} {l : Launch} {e : Env} {s : State} {m : MethodId} {args : Array Value} {below : List Frame} {meth : Method} {c : Code} {G : gG} (X : gX p s m args meth c yX5_countSickWays cX5_countSickWays 5 none RX5 G) {o : Nat} (ho : gsh G o = some 5)  {σ' : Mem} {k17 : Mem → Int32 → Int32 → Option Mem} (hk17 : (∀ (σ : Mem) (x1 : Int32) (x2 : Int32), k17 σ x1 x2 = some σ' → ∀ (H : Heap) (locs : List Loc) (ls : Array Slot), gH G σ H → va_S (gAA G) s.heap H locs → lv_has ls 5 [(0, .ref (gad G o 0)), (1, .int x1), (2, .int x2)] → WB p l e 1 23 s m args below meth c G none σ' H locs (F0 m 17 ls []))) : (∀ (n : Nat) (σ : Mem) (x1 : Int32) (x2 : Int32) (x3 : Int32) (x4 : Int32), fX5_countSickWays_50 k17 o n σ x1 x2 x3 x4 = some σ' → ∀ (H : Heap) (locs : List Loc) (ls : Array Slot), gH G σ H → va_S (gAA G) s.heap H locs → lv_has ls 5 [(0, .ref (gad G o 0)), (1, .int x1), (2, .int x2), (3, .int x3), (4, .int x4)] → WB p l e 1 23 s m args below meth c G none σ' H locs (F0 m 50 ls [])) := by
  intro n
  induction n with
  | zero => intro σ x1 x2 x3 x4 hf H locs ls hH hS hl; exact nomatch (show (none : Option Mem) = some _ from hf)
  | succ n ih =>
    intro σ x1 x2 x3 x4 hf H locs ls hH hS hl
    rw [fX5_countSickWays_50.eq_2] at hf
    refine lv_iload X.hx X.hb dX5_countSickWays_50 (lv_at hl 4 rfl) ?_
    refine lv_if_le (tgt := 92) X.hx X.hb dX5_countSickWays_52 (by decide) (fun c10 => ?_) (fun c10 => ?_)
    · have hf := it_p hf c10
      refine lv_aload_n X.hx X.hb dX5_countSickWays_92 rfl (lv_at hl 0 rfl) ?_
      refine gfX5_68 X hH ho dX5_countSickWays_93 ?_
      refine lv_iconst (v := 0) X.hx X.hb dX5_countSickWays_96 (by decide) ?_
      refine lv_dup2_11 X.hx X.hb dX5_countSickWays_97 rfl rfl ?_
      obtain ⟨hg, hf⟩ := gd_e hf
      refine g_iald X hH ⟨_, ho, rfl⟩ hg dX5_countSickWays_98 ?_
      refine lv_bipush (v := 10) X.hx X.hb dX5_countSickWays_99 (by decide) ?_
      refine lv_iload_n X.hx X.hb dX5_countSickWays_101 rfl (lv_at hl 3 rfl) ?_
      refine lv_isub X.hx X.hb dX5_countSickWays_102 ?_
      refine lv_imul X.hx X.hb dX5_countSickWays_103 ?_
      obtain ⟨hg, hf⟩ := gd_e hf
      refine g_iast X hH hS ⟨_, ho, rfl⟩ hg dX5_countSickWays_104 (fun H locs hH hS => ?_)
      obtain ⟨σ11, he, hf⟩ := stp_e hf
      rw [← he] at hH
      clear he
      refine lv_iinc (v := x2 + 1) (lv' := [(2, .int (x2 + 1)), (0, .ref (gad G o 0)), (1, .int x1), (3, .int x3), (4, .int x4)]) X.hx X.hb dX5_countSickWays_105 hl (k := 2) rfl rfl (by decide) rfl (fun ls hl => ?_)
      refine lv_goto (tgt := 17) X.hx X.hb dX5_countSickWays_108 (by decide) ?_
      exact hk17 _ _ _  hf _ _ _ hH hS (lv_sub hl [1, 2, 0] rfl)
    · have hf := it_n hf c10
      refine lv_aload_n X.hx X.hb dX5_countSickWays_55 rfl (lv_at hl 0 rfl) ?_
      refine gfX5_68 X hH ho dX5_countSickWays_56 ?_
      refine lv_iload X.hx X.hb dX5_countSickWays_59 (lv_at hl 4 rfl) ?_
      refine lv_aload_n X.hx X.hb dX5_countSickWays_61 rfl (lv_at hl 0 rfl) ?_
      refine gfX5_68 X hH ho dX5_countSickWays_62 ?_
      refine lv_iload X.hx X.hb dX5_countSickWays_65 (lv_at hl 4 rfl) ?_
      obtain ⟨hg, hf⟩ := gd_e hf
      refine g_iald X hH ⟨_, ho, rfl⟩ hg dX5_countSickWays_67 ?_
      refine lv_bipush (v := 10) X.hx X.hb dX5_countSickWays_68 (by decide) ?_
      refine lv_iload_n X.hx X.hb dX5_countSickWays_70 rfl (lv_at hl 3 rfl) ?_
      refine lv_isub X.hx X.hb dX5_countSickWays_71 ?_
      refine lv_imul X.hx X.hb dX5_countSickWays_72 ?_
      refine lv_aload_n X.hx X.hb dX5_countSickWays_73 rfl (lv_at hl 0 rfl) ?_
      refine gfX5_68 X hH ho dX5_countSickWays_74 ?_
      refine lv_iload X.hx X.hb dX5_countSickWays_77 (lv_at hl 4 rfl) ?_
      refine lv_iconst (v := 1) X.hx X.hb dX5_countSickWays_79 (by decide) ?_
      refine lv_isub X.hx X.hb dX5_countSickWays_80 ?_
      obtain ⟨hg, hf⟩ := gd_e hf
      refine g_iald X hH ⟨_, ho, rfl⟩ hg dX5_countSickWays_81 ?_
      refine lv_iload_n X.hx X.hb dX5_countSickWays_82 rfl (lv_at hl 3 rfl) ?_
      refine lv_imul X.hx X.hb dX5_countSickWays_83 ?_
      refine lv_iadd X.hx X.hb dX5_countSickWays_84 ?_
      obtain ⟨hg, hf⟩ := gd_e hf
      refine g_iast X hH hS ⟨_, ho, rfl⟩ hg dX5_countSickWays_85 (fun H locs hH hS => ?_)
      obtain ⟨σ12, he, hf⟩ := stp_e hf
      rw [← he] at hH
      clear he
      refine lv_iinc (v := x4 + (-1)) (lv' := [(4, .int (x4 + (-1))), (0, .ref (gad G o 0)), (1, .int x1), (2, .int x2), (3, .int x3)]) X.hx X.hb dX5_countSickWays_86 hl (k := 4) rfl rfl (by decide) rfl (fun ls hl => ?_)
      refine lv_goto (tgt := 50) X.hx X.hb dX5_countSickWays_89 (by decide) ?_
      exact ih _ _ _ _ _  hf _ _ _ hH hS (lv_sub hl [1, 2, 3, 4, 0] rfl)
set_option maxRecDepth 20000 in
set_option maxHeartbeats 4000000 in
theorem bX5_countSickWays_17 {p : Program} {l : Launch} {e : Env} {s : State} {m : MethodId} {args : Array Value} {below : List Frame} {meth : Method} {c : Code} {G : gG} (X : gX p s m args meth c yX5_countSickWays cX5_countSickWays 5 none RX5 G) {o : Nat} (ho : gsh G o = some 5)  {σ' : Mem} : (∀ (n : Nat) (σ : Mem) (x1 : Int32) (x2 : Int32), fX5_countSickWays_17 o n σ x1 x2 = some σ' → ∀ (H : Heap) (locs : List Loc) (ls : Array Slot), gH G σ H → va_S (gAA G) s.heap H locs → lv_has ls 5 [(0, .ref (gad G o 0)), (1, .int x1), (2, .int x2)] → WB p l e 1 23 s m args below meth c G none σ' H locs (F0 m 17 ls [])) := by
  intro n
  induction n with
  | zero => intro σ x1 x2 hf H locs ls hH hS hl; exact nomatch (show (none : Option Mem) = some _ from hf)
  | succ n ih =>
    intro σ x1 x2 hf H locs ls hH hS hl
    rw [fX5_countSickWays_17.eq_2] at hf
    refine lv_iload_n X.hx X.hb dX5_countSickWays_17 rfl (lv_at hl 2 rfl) ?_
    refine lv_aload_n X.hx X.hb dX5_countSickWays_18 rfl (lv_at hl 0 rfl) ?_
    refine gfX5_19 X hH ho dX5_countSickWays_19 ?_
    have h13 : gsh G (mP σ o 1) = some 1 := hH.2.2.1 _ _ _ _ ho rfl
    refine gfX5_202 X hH h13 dX5_countSickWays_22 ?_
    refine lv_icmp_ge (tgt := 111) X.hx X.hb dX5_countSickWays_25 (by decide) (fun c14 => ?_) (fun c14 => ?_)
    · have hf := it_p hf c14
      have e := so1 hf
      rw [e] at hH
      exact g_vret X hH hS rfl dX5_countSickWays_111
    · have hf := it_n hf c14
      refine lv_iload_n X.hx X.hb dX5_countSickWays_28 rfl (lv_at hl 2 rfl) ?_
      refine lv_iload_n X.hx X.hb dX5_countSickWays_29 rfl (lv_at hl 1 rfl) ?_
      refine lv_icmp_ne (tgt := 36) X.hx X.hb dX5_countSickWays_30 (by decide) (fun c15 => ?_) (fun c15 => ?_)
      · have hf := it_n hf c15
        refine lv_aload_n X.hx X.hb dX5_countSickWays_36 rfl (lv_at hl 0 rfl) ?_
        refine gfX5_19 X hH ho dX5_countSickWays_37 ?_
        have h16 : gsh G (mP σ o 1) = some 1 := hH.2.2.1 _ _ _ _ ho rfl
        refine gfX5_98 X hH h16 dX5_countSickWays_40 ?_
        refine lv_iload_n X.hx X.hb dX5_countSickWays_43 rfl (lv_at hl 2 rfl) ?_
        obtain ⟨hg, hf⟩ := gd_e hf
        refine g_iald X hH ⟨_, h16, rfl⟩ hg dX5_countSickWays_44 ?_
        refine lv_istore_n (lv' := [(3, .int (mA σ (mP σ o 1) 6 x2.toNatClampNeg)), (0, .ref (gad G o 0)), (1, .int x1), (2, .int x2)]) X.hx X.hb dX5_countSickWays_45 rfl hl (by decide) rfl (fun ls hl => ?_)
        refine lv_bipush (v := 6) X.hx X.hb dX5_countSickWays_46 (by decide) ?_
        refine lv_istore (lv' := [(4, .int (6 : Int32)), (3, .int (mA σ (mP σ o 1) 6 x2.toNatClampNeg)), (0, .ref (gad G o 0)), (1, .int x1), (2, .int x2)]) X.hx X.hb dX5_countSickWays_48 hl (by decide) rfl (fun ls hl => ?_)
        exact bX5_countSickWays_50 X  ho ih _ _ _ _ _ _  hf _ _ _ hH hS (lv_sub hl [2, 3, 4, 1, 0] rfl)
      · have hf := it_p hf c15
        refine lv_goto (tgt := 105) X.hx X.hb dX5_countSickWays_33 (by decide) ?_
        refine lv_iinc (v := x2 + 1) (lv' := [(2, .int (x2 + 1)), (0, .ref (gad G o 0)), (1, .int x1)]) X.hx X.hb dX5_countSickWays_105 hl (k := 2) rfl rfl (by decide) rfl (fun ls hl => ?_)
        refine lv_goto (tgt := 17) X.hx X.hb dX5_countSickWays_108 (by decide) ?_
        exact ih _ _ _  hf _ _ _ hH hS (lv_sub hl [1, 2, 0] rfl)
set_option maxRecDepth 20000 in
set_option maxHeartbeats 4000000 in
theorem kX5_countSickWays (l : Launch) {G : gG} {σ : Mem} {σ' : Mem} {o : Nat} {x1 : Int32} (ho : gsh G o = some 5)  (hf : fX5_countSickWays σ o x1 = some σ') : CM l yX5_countSickWays cX5_countSickWays 5 none 1 23 G σ [.ref (gad G o 0), .int x1] none σ' := by
  refine CM.of (by decide) (Nat.le_of_ble_eq_true rfl) (fun p e s m below meth c ls X hH hl => ?_)
  have X : gX p s m _ meth c yX5_countSickWays cX5_countSickWays 5 none RX5 G := X
  have hS : va_S (gAA G) s.heap s.heap [] := va_S.rf
  have hl : lv_has ls 5 [(0, .ref (gad G o 0)), (1, .int x1)] := hl
  rw [fX5_countSickWays.eq_1] at hf
  refine lv_aload_n X.hx X.hb dX5_countSickWays_0 rfl (lv_at hl 0 rfl) ?_
  refine gfX5_68 X hH ho dX5_countSickWays_1 ?_
  refine lv_iconst (v := 0) X.hx X.hb dX5_countSickWays_4 (by decide) ?_
  obtain ⟨σ17, hr, hf⟩ := bd_e hf
  refine g_callSV (As := [.ref (gad G o (12 + 1)), .int (0 : Int32)]) (rest := []) X (kJ7_fill_53178 l ⟨_, ho, rfl⟩ hr) ⟨cdJ7_fill_53178, mlX5_279, stJ7_fill_53178, iniJ7⟩ hsJ7_fill_53178 ⟨Nat.le_of_ble_eq_true rfl, Nat.le_of_ble_eq_true rfl⟩ hH hS hl rfl rfl (Nat.le_of_ble_eq_true rfl) ⟨Nat.le_refl 0, Nat.le_refl 0⟩ dX5_countSickWays_5 (fun H locs hH hS => ?_)
  refine lv_aload_n X.hx X.hb dX5_countSickWays_8 rfl (lv_at hl 0 rfl) ?_
  refine gfX5_68 X hH ho dX5_countSickWays_9 ?_
  refine lv_iconst (v := 0) X.hx X.hb dX5_countSickWays_12 (by decide) ?_
  refine lv_iconst (v := 1) X.hx X.hb dX5_countSickWays_13 (by decide) ?_
  obtain ⟨hg, hf⟩ := gd_e hf
  refine g_iast X hH hS ⟨_, ho, rfl⟩ hg dX5_countSickWays_14 (fun H locs hH hS => ?_)
  obtain ⟨σ18, he, hf⟩ := stp_e hf
  rw [← he] at hH
  clear he
  refine lv_iconst (v := 0) X.hx X.hb dX5_countSickWays_15 (by decide) ?_
  refine lv_istore_n (lv' := [(2, .int (0 : Int32)), (0, .ref (gad G o 0)), (1, .int x1)]) X.hx X.hb dX5_countSickWays_16 rfl hl (by decide) rfl (fun ls hl => ?_)
  exact bX5_countSickWays_17 X  ho  _ _ _ _  hf _ _ _ hH hS (lv_sub hl [1, 2, 0] rfl)
set_option maxRecDepth 20000 in
set_option maxHeartbeats 4000000 in
theorem bX5_well_86 {p : Program} {l : Launch} {e : Env} {s : State} {m : MethodId} {args : Array Value} {below : List Frame} {meth : Method} {c : Code} {G : gG} (X : gX p s m args meth c yX5_well cX5_well 6 (some .long) RX5 G) {o : Nat} (ho : gsh G o = some 5)  {r : Int64} {σ' : Mem} : (∀ (σ : Mem) (x3 : Int32) (x4 : Int32) (xs0 : Int32), fX5_well_86 o σ x3 x4 xs0 = some (r, σ') → ∀ (H : Heap) (locs : List Loc) (ls : Array Slot), gH G σ H → va_S (gAA G) s.heap H locs → lv_has ls 6 [(3, .int x3), (4, .int x4)] → WB p l e 2 47 s m args below meth c G (some (.long r)) σ' H locs (F0 m 86 ls [.int xs0])) := by
  intro σ x3 x4 xs0 hf H locs ls hH hS hl
  rw [fX5_well_86.eq_1] at hf
  refine lv_istore (lv' := [(5, .int xs0), (3, .int x3), (4, .int x4)]) X.hx X.hb dX5_well_86 hl (by decide) rfl (fun ls hl => ?_)
  refine lv_iload X.hx X.hb dX5_well_88 (lv_at hl 2 rfl) ?_
  refine lv_iload X.hx X.hb dX5_well_90 (lv_at hl 0 rfl) ?_
  refine lv_iadd X.hx X.hb dX5_well_92 ?_
  refine lv_if_ne (tgt := 100) X.hx X.hb dX5_well_93 (by decide) (fun c14 => ?_) (fun c14 => ?_)
  · have hf := it_n hf c14
    refine lv_iload X.hx X.hb dX5_well_100 (lv_at hl 2 rfl) ?_
    refine lv_iload X.hx X.hb dX5_well_102 (lv_at hl 2 rfl) ?_
    refine lv_iload X.hx X.hb dX5_well_104 (lv_at hl 0 rfl) ?_
    refine lv_iadd X.hx X.hb dX5_well_106 ?_
    refine lv_iload_n X.hx X.hb dX5_well_107 rfl (lv_at hl 1 rfl) ?_
    obtain ⟨r15, hr, hf⟩ := bd_e hf
    refine g_callSI (As := [.int x4, .int (x4 + xs0), .int x3]) (rest := []) X (kX5_inLeastTerms l  hr) ⟨cdX5_inLeastTerms, mlX5_205, stX5_inLeastTerms, iniX5⟩ hsX5_inLeastTerms ⟨Nat.le_of_ble_eq_true rfl, Nat.le_of_ble_eq_true rfl⟩ hH hS hl rfl rfl (Nat.le_of_ble_eq_true rfl) ⟨Nat.le_refl 0, Nat.le_refl 0⟩ dX5_well_108 (fun H locs hH hS => ?_)
    refine lv_i2l X.hx X.hb dX5_well_111 rfl ?_
    have e := so2 hf
    rw [e.2] at hH
    exact g_lret X hH hS rfl e.1 dX5_well_112
  · have hf := it_p hf c14
    refine lv_ldc2 X.hx X.hb X.hown (X.w kcX5_212) dX5_well_96 ?_
    have e := so2 hf
    rw [e.2] at hH
    exact g_lret X hH hS rfl e.1 dX5_well_99
set_option maxRecDepth 20000 in
set_option maxHeartbeats 4000000 in
theorem kX5_well (l : Launch) {G : gG} {σ : Mem} {r : Int64} {σ' : Mem} {o : Nat} {x1 : Int32} {x2 : Int32} {x3 : Int32} (ho : gsh G o = some 5)  (hf : fX5_well σ o x1 x2 x3 = some (r, σ')) : CM l yX5_well cX5_well 6 (some .long) 2 47 G σ [.ref (gad G o 0), .int x1, .int x2, .int x3] (some (.long r)) σ' := by
  refine CM.of (by decide) (Nat.le_of_ble_eq_true rfl) (fun p e s m below meth c ls X hH hl => ?_)
  have X : gX p s m _ meth c yX5_well cX5_well 6 (some .long) RX5 G := X
  have hS : va_S (gAA G) s.heap s.heap [] := va_S.rf
  have hl : lv_has ls 6 [(0, .ref (gad G o 0)), (1, .int x1), (2, .int x2), (3, .int x3)] := hl
  rw [fX5_well.eq_1] at hf
  refine lv_aload_n X.hx X.hb dX5_well_0 rfl (lv_at hl 0 rfl) ?_
  refine gfX5_19 X hH ho dX5_well_1 ?_
  have h16 : gsh G (mP σ o 1) = some 1 := hH.2.2.1 _ _ _ _ ho rfl
  refine lv_iload_n X.hx X.hb dX5_well_4 rfl (lv_at hl 1 rfl) ?_
  obtain ⟨r17, hr, hf⟩ := bd_e hf
  refine g_callVI (As := [.int x1]) (rest := []) X (kX1_hasTraveller l h16 hr) (C := RX1) (T := TX1) (N := 11) (ci := 1) rfl h16 ⟨cdX1_hasTraveller, mlX5_92, imX1_hasTraveller, seX1_hasTraveller, iniX1⟩ hvX1_hasTraveller ⟨Nat.le_of_ble_eq_true rfl, Nat.le_of_ble_eq_true rfl⟩ hH hS hl rfl rfl (Nat.le_of_ble_eq_true rfl) ⟨Nat.le_refl 0, Nat.le_refl 0⟩ dX5_well_5 (fun H locs hH hS => ?_)
  refine lv_if_eq (tgt := 30) X.hx X.hb dX5_well_8 (by decide) (fun c18 => ?_) (fun c18 => ?_)
  · have hf := it_p hf c18
    refine lv_ldc2 X.hx X.hb X.hown (X.w kcX5_200) dX5_well_30 ?_
    have e := so2 hf
    rw [e.2] at hH
    exact g_lret X hH hS rfl e.1 dX5_well_33
  · have hf := it_n hf c18
    refine lv_iload_n X.hx X.hb dX5_well_11 rfl (lv_at hl 2 rfl) ?_
    refine lv_if_lt (tgt := 30) X.hx X.hb dX5_well_12 (by decide) (fun c19 => ?_) (fun c19 => ?_)
    · have hf := it_p hf c19
      refine lv_ldc2 X.hx X.hb X.hown (X.w kcX5_200) dX5_well_30 ?_
      have e := so2 hf
      rw [e.2] at hH
      exact g_lret X hH hS rfl e.1 dX5_well_33
    · have hf := it_n hf c19
      refine lv_iload_n X.hx X.hb dX5_well_15 rfl (lv_at hl 2 rfl) ?_
      refine lv_bipush (v := 6) X.hx X.hb dX5_well_16 (by decide) ?_
      refine lv_icmp_gt (tgt := 30) X.hx X.hb dX5_well_18 (by decide) (fun c20 => ?_) (fun c20 => ?_)
      · have hf := it_p hf c20
        refine lv_ldc2 X.hx X.hb X.hown (X.w kcX5_200) dX5_well_30 ?_
        have e := so2 hf
        rw [e.2] at hH
        exact g_lret X hH hS rfl e.1 dX5_well_33
      · have hf := it_n hf c20
        refine lv_iload_n X.hx X.hb dX5_well_21 rfl (lv_at hl 3 rfl) ?_
        refine lv_if_lt (tgt := 30) X.hx X.hb dX5_well_22 (by decide) (fun c21 => ?_) (fun c21 => ?_)
        · have hf := it_p hf c21
          refine lv_ldc2 X.hx X.hb X.hown (X.w kcX5_200) dX5_well_30 ?_
          have e := so2 hf
          rw [e.2] at hH
          exact g_lret X hH hS rfl e.1 dX5_well_33
        · have hf := it_n hf c21
          refine lv_iload_n X.hx X.hb dX5_well_25 rfl (lv_at hl 3 rfl) ?_
          refine lv_iconst (v := 1) X.hx X.hb dX5_well_26 (by decide) ?_
          refine lv_icmp_le (tgt := 34) X.hx X.hb dX5_well_27 (by decide) (fun c22 => ?_) (fun c22 => ?_)
          · have hf := it_p hf c22
            refine lv_aload_n X.hx X.hb dX5_well_34 rfl (lv_at hl 0 rfl) ?_
            refine lv_iload_n X.hx X.hb dX5_well_35 rfl (lv_at hl 1 rfl) ?_
            obtain ⟨σ23, hr, hf⟩ := bd_e hf
            refine g_callVV (As := [.int x1]) (rest := []) X (kX5_countSickWays l ho hr) (C := RX5) (T := TX5) (N := 14) (ci := 5) rfl ho ⟨cdX5_countSickWays, mlX5_209, imX5_countSickWays, seX5_countSickWays, iniX5⟩ hvX5_countSickWays ⟨Nat.le_of_ble_eq_true rfl, Nat.le_of_ble_eq_true rfl⟩ hH hS hl rfl rfl (Nat.le_of_ble_eq_true rfl) ⟨Nat.le_refl 0, Nat.le_refl 0⟩ dX5_well_36 (fun H locs hH hS => ?_)
            refine lv_bipush (v := 10) X.hx X.hb dX5_well_39 (by decide) ?_
            refine lv_aload_n X.hx X.hb dX5_well_41 rfl (lv_at hl 0 rfl) ?_
            refine gfX5_19 X hH ho dX5_well_42 ?_
            have h24 : gsh G (mP σ23 o 1) = some 1 := hH.2.2.1 _ _ _ _ ho rfl
            refine gfX5_98 X hH h24 dX5_well_45 ?_
            refine lv_iload_n X.hx X.hb dX5_well_48 rfl (lv_at hl 1 rfl) ?_
            obtain ⟨hg, hf⟩ := gd_e hf
            refine g_iald X hH ⟨_, h24, rfl⟩ hg dX5_well_49 ?_
            refine lv_isub X.hx X.hb dX5_well_50 ?_
            refine lv_aload_n X.hx X.hb dX5_well_51 rfl (lv_at hl 0 rfl) ?_
            refine gfX5_68 X hH ho dX5_well_52 ?_
            refine lv_iload_n X.hx X.hb dX5_well_55 rfl (lv_at hl 2 rfl) ?_
            obtain ⟨hg, hf⟩ := gd_e hf
            refine g_iald X hH ⟨_, ho, rfl⟩ hg dX5_well_56 ?_
            refine lv_imul X.hx X.hb dX5_well_57 ?_
            refine lv_istore (lv' := [(4, .int (((10 : Int32) - (mA σ23 (mP σ23 o 1) 6 x1.toNatClampNeg)) * (mA σ23 o 12 x2.toNatClampNeg))), (0, .ref (gad G o 0)), (1, .int x1), (2, .int x2), (3, .int x3)]) X.hx X.hb dX5_well_58 hl (by decide) rfl (fun ls hl => ?_)
            refine lv_iload_n X.hx X.hb dX5_well_60 rfl (lv_at hl 3 rfl) ?_
            refine lv_if_ne (tgt := 68) X.hx X.hb dX5_well_61 (by decide) (fun c25 => ?_) (fun c25 => ?_)
            · have hf := it_n hf c25
              refine lv_aload_n X.hx X.hb dX5_well_68 rfl (lv_at hl 1 rfl) ?_
              refine gfX5_19 X hH ho dX5_well_69 ?_
              have h26 : gsh G (mP σ23 o 1) = some 1 := hH.2.2.1 _ _ _ _ ho rfl
              refine gfX5_98 X hH h26 dX5_well_72 ?_
              refine lv_iload_n X.hx X.hb dX5_well_75 rfl (lv_at hl 2 rfl) ?_
              obtain ⟨hg, hf⟩ := gd_e hf
              refine g_iald X hH ⟨_, h26, rfl⟩ hg dX5_well_76 ?_
              refine lv_aload_n X.hx X.hb dX5_well_77 rfl (lv_at hl 1 rfl) ?_
              refine gfX5_68 X hH ho dX5_well_78 ?_
              refine lv_iload_n X.hx X.hb dX5_well_81 rfl (lv_at hl 3 rfl) ?_
              refine lv_iconst (v := 1) X.hx X.hb dX5_well_82 (by decide) ?_
              refine lv_isub X.hx X.hb dX5_well_83 ?_
              obtain ⟨hg, hf⟩ := gd_e hf
              refine g_iald X hH ⟨_, ho, rfl⟩ hg dX5_well_84 ?_
              refine lv_imul X.hx X.hb dX5_well_85 ?_
              exact bX5_well_86 X  ho   _ _ _ _  hf _ _ _ hH hS (lv_sub hl [4, 0] rfl)
            · have hf := it_p hf c25
              refine lv_iconst (v := 0) X.hx X.hb dX5_well_64 (by decide) ?_
              refine lv_goto (tgt := 86) X.hx X.hb dX5_well_65 (by decide) ?_
              exact bX5_well_86 X  ho   _ _ _ _  hf _ _ _ hH hS (lv_sub hl [4, 0] rfl)
          · have hf := it_n hf c22
            refine lv_ldc2 X.hx X.hb X.hown (X.w kcX5_200) dX5_well_30 ?_
            have e := so2 hf
            rw [e.2] at hH
            exact g_lret X hH hS rfl e.1 dX5_well_33
set_option maxRecDepth 20000 in
set_option maxHeartbeats 4000000 in
theorem bX5_lengthOf_4 {p : Program} {l : Launch} {e : Env} {s : State} {m : MethodId} {args : Array Value} {below : List Frame} {meth : Method} {c : Code} {G : gG} (X : gX p s m args meth c yX5_lengthOf cX5_lengthOf 3 (some .int) RX5 G)  {σ : Mem} {r : Int32} : (∀ (n : Nat) (x1 : Int32) (x2 : Int32), fX5_lengthOf_4 n x1 x2 = some r → ∀ (H : Heap) (locs : List Loc) (ls : Array Slot), gH G σ H → va_S (gAA G) s.heap H locs → lv_has ls 3 [(1, .int x1), (2, .int x2)] → WB p l e 0 0 s m args below meth c G (some (.int r)) σ H locs (F0 m 4 ls [])) := by
  intro n
  induction n with
  | zero => intro x1 x2 hf H locs ls hH hS hl; exact nomatch (show (none : Option Int32) = some _ from hf)
  | succ n ih =>
    intro x1 x2 hf H locs ls hH hS hl
    rw [fX5_lengthOf_4.eq_2] at hf
    refine lv_iload_n X.hx X.hb dX5_lengthOf_4 rfl (lv_at hl 1 rfl) ?_
    refine lv_bipush (v := 11) X.hx X.hb dX5_lengthOf_5 (by decide) ?_
    refine lv_icmp_lt (tgt := 26) X.hx X.hb dX5_lengthOf_7 (by decide) (fun c3 => ?_) (fun c3 => ?_)
    · have hf := it_p hf c3
      refine lv_iload_n X.hx X.hb dX5_lengthOf_26 rfl (lv_at hl 0 rfl) ?_
      exact g_iret X hH hS rfl (so1 hf) dX5_lengthOf_27
    · have hf := it_n hf c3
      refine lv_iload_n X.hx X.hb dX5_lengthOf_10 rfl (lv_at hl 0 rfl) ?_
      refine lv_iconst (v := 5) X.hx X.hb dX5_lengthOf_11 (by decide) ?_
      refine lv_icmp_ge (tgt := 26) X.hx X.hb dX5_lengthOf_12 (by decide) (fun c4 => ?_) (fun c4 => ?_)
      · have hf := it_p hf c4
        refine lv_iload_n X.hx X.hb dX5_lengthOf_26 rfl (lv_at hl 0 rfl) ?_
        exact g_iret X hH hS rfl (so1 hf) dX5_lengthOf_27
      · have hf := it_n hf c4
        refine lv_iinc (v := x1 + 1) (lv' := [(1, .int (x1 + 1)), (2, .int x2)]) X.hx X.hb dX5_lengthOf_15 hl (k := 0) rfl rfl (by decide) rfl (fun ls hl => ?_)
        refine lv_iload_n X.hx X.hb dX5_lengthOf_18 rfl (lv_at hl 1 rfl) ?_
        refine lv_bipush (v := 11) X.hx X.hb dX5_lengthOf_19 (by decide) ?_
        refine lv_idiv X.hx X.hb dX5_lengthOf_21 (by decide) ?_
        refine lv_istore_n (lv' := [(2, .int (x2 / (11 : Int32))), (1, .int (x1 + 1))]) X.hx X.hb dX5_lengthOf_22 rfl hl (by decide) rfl (fun ls hl => ?_)
        refine lv_goto (tgt := 4) X.hx X.hb dX5_lengthOf_23 (by decide) ?_
        exact ih _ _  hf _ _ _ hH hS (lv_sub hl [1, 0] rfl)
set_option maxRecDepth 20000 in
set_option maxHeartbeats 4000000 in
theorem kX5_lengthOf (l : Launch) {G : gG} {σ : Mem} {r : Int32} {x0 : Int32}  (hf : fX5_lengthOf x0 = some r) : CM l yX5_lengthOf cX5_lengthOf 3 (some .int) 0 0 G σ [.int x0] (some (.int r)) σ := by
  refine CM.of (by decide) (Nat.le_of_ble_eq_true rfl) (fun p e s m below meth c ls X hH hl => ?_)
  have X : gX p s m _ meth c yX5_lengthOf cX5_lengthOf 3 (some .int) RX5 G := X
  have hS : va_S (gAA G) s.heap s.heap [] := va_S.rf
  have hl : lv_has ls 3 [(0, .int x0)] := hl
  rw [fX5_lengthOf.eq_1] at hf
  refine lv_iconst (v := 0) X.hx X.hb dX5_lengthOf_0 (by decide) ?_
  refine lv_istore_n (lv' := [(1, .int (0 : Int32)), (0, .int x0)]) X.hx X.hb dX5_lengthOf_1 rfl hl (by decide) rfl (fun ls hl => ?_)
  refine lv_iload_n X.hx X.hb dX5_lengthOf_2 rfl (lv_at hl 1 rfl) ?_
  refine lv_istore_n (lv' := [(2, .int x0), (1, .int (0 : Int32)), (0, .int x0)]) X.hx X.hb dX5_lengthOf_3 rfl hl (by decide) rfl (fun ls hl => ?_)
  exact bX5_lengthOf_4 X    _ _ _  hf _ _ _ hH hS (lv_sub hl [1, 0] rfl)
set_option maxRecDepth 20000 in
set_option maxHeartbeats 4000000 in
theorem kX5_writes (l : Launch) {G : gG} {σ : Mem} {r : Int32} {σ' : Mem} {o : Nat} {x1 : Int32} (ho : gsh G o = some 5)  (hf : fX5_writes σ o x1 = some (r, σ')) : CM l yX5_writes cX5_writes 3 (some .int) 2 43 G σ [.ref (gad G o 0), .int x1] (some (.int r)) σ' := by
  refine CM.of (by decide) (Nat.le_of_ble_eq_true rfl) (fun p e s m below meth c ls X hH hl => ?_)
  have X : gX p s m _ meth c yX5_writes cX5_writes 3 (some .int) RX5 G := X
  have hS : va_S (gAA G) s.heap s.heap [] := va_S.rf
  have hl : lv_has ls 3 [(0, .ref (gad G o 0)), (1, .int x1)] := hl
  rw [fX5_writes.eq_1] at hf
  refine lv_iload_n X.hx X.hb dX5_writes_0 rfl (lv_at hl 1 rfl) ?_
  refine lv_if_lt (tgt := 10) X.hx X.hb dX5_writes_1 (by decide) (fun c12 => ?_) (fun c12 => ?_)
  · have hf := it_p hf c12
    refine lv_iconst (v := -1) X.hx X.hb dX5_writes_10 (by decide) ?_
    have e := so2 hf
    rw [e.2] at hH
    exact g_iret X hH hS rfl e.1 dX5_writes_11
  · have hf := it_n hf c12
    refine lv_iload_n X.hx X.hb dX5_writes_4 rfl (lv_at hl 1 rfl) ?_
    refine lv_bipush (v := 10) X.hx X.hb dX5_writes_5 (by decide) ?_
    refine lv_icmp_lt (tgt := 12) X.hx X.hb dX5_writes_7 (by decide) (fun c13 => ?_) (fun c13 => ?_)
    · have hf := it_p hf c13
      refine lv_aload_n X.hx X.hb dX5_writes_12 rfl (lv_at hl 0 rfl) ?_
      refine gfX5_29 X hH ho dX5_writes_13 ?_
      have h14 : gsh G (mP σ o 3) = some 2 := hH.2.2.1 _ _ _ _ ho rfl
      refine gfX5_214 X hH h14 dX5_writes_16 ?_
      obtain ⟨r15, hr, hf⟩ := bd_e hf
      refine g_callSI (As := [.int (mI σ (mP σ o 3) 3)]) (rest := []) X (kX5_lengthOf l  hr) ⟨cdX5_lengthOf, mlX5_217, stX5_lengthOf, iniX5⟩ hsX5_lengthOf ⟨Nat.le_of_ble_eq_true rfl, Nat.le_of_ble_eq_true rfl⟩ hH hS hl rfl rfl (Nat.le_of_ble_eq_true rfl) ⟨Nat.le_refl 0, Nat.le_refl 0⟩ dX5_writes_19 (fun H locs hH hS => ?_)
      refine lv_istore_n (lv' := [(2, .int r15), (0, .ref (gad G o 0)), (1, .int x1)]) X.hx X.hb dX5_writes_22 rfl hl (by decide) rfl (fun ls hl => ?_)
      refine lv_iload_n X.hx X.hb dX5_writes_23 rfl (lv_at hl 0 rfl) ?_
      refine lv_iconst (v := 5) X.hx X.hb dX5_writes_24 (by decide) ?_
      refine lv_icmp_lt (tgt := 31) X.hx X.hb dX5_writes_25 (by decide) (fun c16 => ?_) (fun c16 => ?_)
      · have hf := it_p hf c16
        refine lv_aload_n X.hx X.hb dX5_writes_31 rfl (lv_at hl 1 rfl) ?_
        refine gfX5_36 X hH ho dX5_writes_32 ?_
        have h17 : gsh G (mP σ o 4) = some 0 := hH.2.2.1 _ _ _ _ ho rfl
        refine lv_aload_n X.hx X.hb dX5_writes_35 rfl (lv_at hl 1 rfl) ?_
        refine gfX5_29 X hH ho dX5_writes_36 ?_
        have h18 : gsh G (mP σ o 3) = some 2 := hH.2.2.1 _ _ _ _ ho rfl
        obtain ⟨σ19, hr, hf⟩ := bd_e hf
        refine g_callVV (As := [.ref (gad G (mP σ o 3) 0)]) (rest := []) X (kX0_remember l h17 h18 hr) (C := RX0) (T := TX0) (N := 3) (ci := 0) rfl h17 ⟨cdX0_remember, mlX5_145, imX0_remember, seX0_remember, iniX0⟩ hvX0_remember ⟨Nat.le_of_ble_eq_true rfl, Nat.le_of_ble_eq_true rfl⟩ hH hS hl rfl rfl (Nat.le_of_ble_eq_true rfl) ⟨Nat.le_refl 0, Nat.le_refl 0⟩ dX5_writes_39 (fun H locs hH hS => ?_)
        refine lv_aload_n X.hx X.hb dX5_writes_42 rfl (lv_at hl 1 rfl) ?_
        refine gfX5_29 X hH ho dX5_writes_43 ?_
        have h20 : gsh G (mP σ19 o 3) = some 2 := hH.2.2.1 _ _ _ _ ho rfl
        refine lv_aload_n X.hx X.hb dX5_writes_46 rfl (lv_at hl 1 rfl) ?_
        refine gfX5_29 X hH ho dX5_writes_47 ?_
        have h21 : gsh G (mP σ19 o 3) = some 2 := hH.2.2.1 _ _ _ _ ho rfl
        refine gfX5_214 X hH h21 dX5_writes_50 ?_
        refine lv_bipush (v := 11) X.hx X.hb dX5_writes_53 (by decide) ?_
        refine lv_imul X.hx X.hb dX5_writes_55 ?_
        refine lv_iload_n X.hx X.hb dX5_writes_56 rfl (lv_at hl 2 rfl) ?_
        refine lv_iadd X.hx X.hb dX5_writes_57 ?_
        refine pfX5_214 X hH hS h20  dX5_writes_58 (fun H locs hH hS => ?_)
        obtain ⟨σ22, he, hf⟩ := stp_e hf
        rw [← he] at hH
        clear he
        refine lv_iload_n X.hx X.hb dX5_writes_61 rfl (lv_at hl 0 rfl) ?_
        refine lv_iconst (v := 1) X.hx X.hb dX5_writes_62 (by decide) ?_
        refine lv_iadd X.hx X.hb dX5_writes_63 ?_
        have e := so2 hf
        rw [e.2] at hH
        exact g_iret X hH hS rfl e.1 dX5_writes_64
      · have hf := it_n hf c16
        refine lv_bipush (v := -3) X.hx X.hb dX5_writes_28 (by decide) ?_
        have e := so2 hf
        rw [e.2] at hH
        exact g_iret X hH hS rfl e.1 dX5_writes_30
    · have hf := it_n hf c13
      refine lv_iconst (v := -1) X.hx X.hb dX5_writes_10 (by decide) ?_
      have e := so2 hf
      rw [e.2] at hH
      exact g_iret X hH hS rfl e.1 dX5_writes_11
set_option maxRecDepth 20000 in
set_option maxHeartbeats 4000000 in
theorem kX5_tears (l : Launch) {G : gG} {σ : Mem} {r : Int32} {σ' : Mem} {o : Nat} (ho : gsh G o = some 5)  (hf : fX5_tears σ o = some (r, σ')) : CM l yX5_tears cX5_tears 2 (some .int) 2 43 G σ [.ref (gad G o 0)] (some (.int r)) σ' := by
  refine CM.of (by decide) (Nat.le_of_ble_eq_true rfl) (fun p e s m below meth c ls X hH hl => ?_)
  have X : gX p s m _ meth c yX5_tears cX5_tears 2 (some .int) RX5 G := X
  have hS : va_S (gAA G) s.heap s.heap [] := va_S.rf
  have hl : lv_has ls 2 [(0, .ref (gad G o 0))] := hl
  rw [fX5_tears.eq_1] at hf
  refine lv_aload_n X.hx X.hb dX5_tears_0 rfl (lv_at hl 0 rfl) ?_
  refine gfX5_36 X hH ho dX5_tears_1 ?_
  have h8 : gsh G (mP σ o 4) = some 0 := hH.2.2.1 _ _ _ _ ho rfl
  refine lv_aload_n X.hx X.hb dX5_tears_4 rfl (lv_at hl 0 rfl) ?_
  refine gfX5_29 X hH ho dX5_tears_5 ?_
  have h9 : gsh G (mP σ o 3) = some 2 := hH.2.2.1 _ _ _ _ ho rfl
  obtain ⟨σ10, hr, hf⟩ := bd_e hf
  refine g_callVV (As := [.ref (gad G (mP σ o 3) 0)]) (rest := []) X (kX0_remember l h8 h9 hr) (C := RX0) (T := TX0) (N := 3) (ci := 0) rfl h8 ⟨cdX0_remember, mlX5_145, imX0_remember, seX0_remember, iniX0⟩ hvX0_remember ⟨Nat.le_of_ble_eq_true rfl, Nat.le_of_ble_eq_true rfl⟩ hH hS hl rfl rfl (Nat.le_of_ble_eq_true rfl) ⟨Nat.le_refl 0, Nat.le_refl 0⟩ dX5_tears_8 (fun H locs hH hS => ?_)
  refine lv_aload_n X.hx X.hb dX5_tears_11 rfl (lv_at hl 0 rfl) ?_
  refine gfX5_29 X hH ho dX5_tears_12 ?_
  have h11 : gsh G (mP σ10 o 3) = some 2 := hH.2.2.1 _ _ _ _ ho rfl
  refine gfX5_214 X hH h11 dX5_tears_15 ?_
  obtain ⟨r12, hr, hf⟩ := bd_e hf
  refine g_callSI (As := [.int (mI σ10 (mP σ10 o 3) 3)]) (rest := []) X (kX5_lengthOf l  hr) ⟨cdX5_lengthOf, mlX5_217, stX5_lengthOf, iniX5⟩ hsX5_lengthOf ⟨Nat.le_of_ble_eq_true rfl, Nat.le_of_ble_eq_true rfl⟩ hH hS hl rfl rfl (Nat.le_of_ble_eq_true rfl) ⟨Nat.le_refl 0, Nat.le_refl 0⟩ dX5_tears_18 (fun H locs hH hS => ?_)
  refine lv_istore_n (lv' := [(1, .int r12), (0, .ref (gad G o 0))]) X.hx X.hb dX5_tears_21 rfl hl (by decide) rfl (fun ls hl => ?_)
  refine lv_aload_n X.hx X.hb dX5_tears_22 rfl (lv_at hl 1 rfl) ?_
  refine gfX5_29 X hH ho dX5_tears_23 ?_
  have h13 : gsh G (mP σ10 o 3) = some 2 := hH.2.2.1 _ _ _ _ ho rfl
  refine lv_iconst (v := 1) X.hx X.hb dX5_tears_26 (by decide) ?_
  refine pfX5_214 X hH hS h13  dX5_tears_27 (fun H locs hH hS => ?_)
  obtain ⟨σ14, he, hf⟩ := stp_e hf
  rw [← he] at hH
  clear he
  refine lv_iload_n X.hx X.hb dX5_tears_30 rfl (lv_at hl 0 rfl) ?_
  have e := so2 hf
  rw [e.2] at hH
  exact g_iret X hH hS rfl e.1 dX5_tears_31
set_option maxRecDepth 20000 in
set_option maxHeartbeats 4000000 in
theorem bX5_lostIn_4 {p : Program} {l : Launch} {e : Env} {s : State} {m : MethodId} {args : Array Value} {below : List Frame} {meth : Method} {c : Code} {G : gG} (X : gX p s m args meth c yX5_lostIn cX5_lostIn 3 (some .int) RX5 G)  {σ : Mem} {r : Int32} : (∀ (n : Nat) (x1 : Int32) (x2 : Int32), fX5_lostIn_4 n x1 x2 = some r → ∀ (H : Heap) (locs : List Loc) (ls : Array Slot), gH G σ H → va_S (gAA G) s.heap H locs → lv_has ls 3 [(1, .int x1), (2, .int x2)] → WB p l e 0 0 s m args below meth c G (some (.int r)) σ H locs (F0 m 4 ls [])) := by
  intro n
  induction n with
  | zero => intro x1 x2 hf H locs ls hH hS hl; exact nomatch (show (none : Option Int32) = some _ from hf)
  | succ n ih =>
    intro x1 x2 hf H locs ls hH hS hl
    rw [fX5_lostIn_4.eq_2] at hf
    refine lv_iload_n X.hx X.hb dX5_lostIn_4 rfl (lv_at hl 1 rfl) ?_
    refine lv_bipush (v := 11) X.hx X.hb dX5_lostIn_5 (by decide) ?_
    refine lv_icmp_lt (tgt := 30) X.hx X.hb dX5_lostIn_7 (by decide) (fun c3 => ?_) (fun c3 => ?_)
    · have hf := it_p hf c3
      refine lv_iload_n X.hx X.hb dX5_lostIn_30 rfl (lv_at hl 0 rfl) ?_
      exact g_iret X hH hS rfl (so1 hf) dX5_lostIn_31
    · have hf := it_n hf c3
      refine lv_iload_n X.hx X.hb dX5_lostIn_10 rfl (lv_at hl 1 rfl) ?_
      refine lv_bipush (v := 11) X.hx X.hb dX5_lostIn_11 (by decide) ?_
      refine lv_irem X.hx X.hb dX5_lostIn_13 (by decide) ?_
      refine lv_bipush (v := 10) X.hx X.hb dX5_lostIn_14 (by decide) ?_
      refine lv_icmp_ne (tgt := 22) X.hx X.hb dX5_lostIn_16 (by decide) (fun c4 => ?_) (fun c4 => ?_)
      · have hf := it_n hf c4
        refine lv_iload_n X.hx X.hb dX5_lostIn_22 rfl (lv_at hl 1 rfl) ?_
        refine lv_bipush (v := 11) X.hx X.hb dX5_lostIn_23 (by decide) ?_
        refine lv_idiv X.hx X.hb dX5_lostIn_25 (by decide) ?_
        refine lv_istore_n (lv' := [(2, .int (x2 / (11 : Int32))), (1, .int x1)]) X.hx X.hb dX5_lostIn_26 rfl hl (by decide) rfl (fun ls hl => ?_)
        refine lv_goto (tgt := 4) X.hx X.hb dX5_lostIn_27 (by decide) ?_
        exact ih _ _  hf _ _ _ hH hS (lv_sub hl [1, 0] rfl)
      · have hf := it_p hf c4
        refine lv_iinc (v := x1 + 1) (lv' := [(1, .int (x1 + 1)), (2, .int x2)]) X.hx X.hb dX5_lostIn_19 hl (k := 0) rfl rfl (by decide) rfl (fun ls hl => ?_)
        refine lv_iload_n X.hx X.hb dX5_lostIn_22 rfl (lv_at hl 1 rfl) ?_
        refine lv_bipush (v := 11) X.hx X.hb dX5_lostIn_23 (by decide) ?_
        refine lv_idiv X.hx X.hb dX5_lostIn_25 (by decide) ?_
        refine lv_istore_n (lv' := [(2, .int (x2 / (11 : Int32))), (1, .int (x1 + 1))]) X.hx X.hb dX5_lostIn_26 rfl hl (by decide) rfl (fun ls hl => ?_)
        refine lv_goto (tgt := 4) X.hx X.hb dX5_lostIn_27 (by decide) ?_
        exact ih _ _  hf _ _ _ hH hS (lv_sub hl [1, 0] rfl)
set_option maxRecDepth 20000 in
set_option maxHeartbeats 4000000 in
theorem kX5_lostIn (l : Launch) {G : gG} {σ : Mem} {r : Int32} {x0 : Int32}  (hf : fX5_lostIn x0 = some r) : CM l yX5_lostIn cX5_lostIn 3 (some .int) 0 0 G σ [.int x0] (some (.int r)) σ := by
  refine CM.of (by decide) (Nat.le_of_ble_eq_true rfl) (fun p e s m below meth c ls X hH hl => ?_)
  have X : gX p s m _ meth c yX5_lostIn cX5_lostIn 3 (some .int) RX5 G := X
  have hS : va_S (gAA G) s.heap s.heap [] := va_S.rf
  have hl : lv_has ls 3 [(0, .int x0)] := hl
  rw [fX5_lostIn.eq_1] at hf
  refine lv_iconst (v := 0) X.hx X.hb dX5_lostIn_0 (by decide) ?_
  refine lv_istore_n (lv' := [(1, .int (0 : Int32)), (0, .int x0)]) X.hx X.hb dX5_lostIn_1 rfl hl (by decide) rfl (fun ls hl => ?_)
  refine lv_iload_n X.hx X.hb dX5_lostIn_2 rfl (lv_at hl 1 rfl) ?_
  refine lv_istore_n (lv' := [(2, .int x0), (1, .int (0 : Int32)), (0, .int x0)]) X.hx X.hb dX5_lostIn_3 rfl hl (by decide) rfl (fun ls hl => ?_)
  exact bX5_lostIn_4 X    _ _ _  hf _ _ _ hH hS (lv_sub hl [1, 0] rfl)
set_option maxRecDepth 20000 in
set_option maxHeartbeats 4000000 in
theorem kX5_smokes (l : Launch) {G : gG} {σ : Mem} {r : Int32} {σ' : Mem} {o : Nat} {x1 : Int32} (ho : gsh G o = some 5)  (hf : fX5_smokes σ o x1 = some (r, σ')) : CM l yX5_smokes cX5_smokes 2 (some .int) 2 47 G σ [.ref (gad G o 0), .int x1] (some (.int r)) σ' := by
  refine CM.of (by decide) (Nat.le_of_ble_eq_true rfl) (fun p e s m below meth c ls X hH hl => ?_)
  have X : gX p s m _ meth c yX5_smokes cX5_smokes 2 (some .int) RX5 G := X
  have hS : va_S (gAA G) s.heap s.heap [] := va_S.rf
  have hl : lv_has ls 2 [(0, .ref (gad G o 0)), (1, .int x1)] := hl
  rw [fX5_smokes.eq_1] at hf
  refine lv_aload_n X.hx X.hb dX5_smokes_0 rfl (lv_at hl 0 rfl) ?_
  refine gfX5_19 X hH ho dX5_smokes_1 ?_
  have h14 : gsh G (mP σ o 1) = some 1 := hH.2.2.1 _ _ _ _ ho rfl
  refine lv_iload_n X.hx X.hb dX5_smokes_4 rfl (lv_at hl 1 rfl) ?_
  obtain ⟨r15, hr, hf⟩ := bd_e hf
  refine g_callVI (As := [.int x1]) (rest := []) X (kX1_hasClerk l h14 hr) (C := RX1) (T := TX1) (N := 11) (ci := 1) rfl h14 ⟨cdX1_hasClerk, mlX5_111, imX1_hasClerk, seX1_hasClerk, iniX1⟩ hvX1_hasClerk ⟨Nat.le_of_ble_eq_true rfl, Nat.le_of_ble_eq_true rfl⟩ hH hS hl rfl rfl (Nat.le_of_ble_eq_true rfl) ⟨Nat.le_refl 0, Nat.le_refl 0⟩ dX5_smokes_5 (fun H locs hH hS => ?_)
  refine lv_if_ne (tgt := 13) X.hx X.hb dX5_smokes_8 (by decide) (fun c16 => ?_) (fun c16 => ?_)
  · have hf := it_n hf c16
    refine lv_aload_n X.hx X.hb dX5_smokes_13 rfl (lv_at hl 0 rfl) ?_
    refine gfX5_36 X hH ho dX5_smokes_14 ?_
    have h17 : gsh G (mP σ o 4) = some 0 := hH.2.2.1 _ _ _ _ ho rfl
    refine lv_aload_n X.hx X.hb dX5_smokes_17 rfl (lv_at hl 0 rfl) ?_
    refine gfX5_29 X hH ho dX5_smokes_18 ?_
    have h18 : gsh G (mP σ o 3) = some 2 := hH.2.2.1 _ _ _ _ ho rfl
    obtain ⟨σ19, hr, hf⟩ := bd_e hf
    refine g_callVV (As := [.ref (gad G (mP σ o 3) 0)]) (rest := []) X (kX0_remember l h17 h18 hr) (C := RX0) (T := TX0) (N := 3) (ci := 0) rfl h17 ⟨cdX0_remember, mlX5_145, imX0_remember, seX0_remember, iniX0⟩ hvX0_remember ⟨Nat.le_of_ble_eq_true rfl, Nat.le_of_ble_eq_true rfl⟩ hH hS hl rfl rfl (Nat.le_of_ble_eq_true rfl) ⟨Nat.le_refl 0, Nat.le_refl 0⟩ dX5_smokes_21 (fun H locs hH hS => ?_)
    refine lv_aload_n X.hx X.hb dX5_smokes_24 rfl (lv_at hl 0 rfl) ?_
    refine gfX5_29 X hH ho dX5_smokes_25 ?_
    have h20 : gsh G (mP σ19 o 3) = some 2 := hH.2.2.1 _ _ _ _ ho rfl
    refine lv_aload_n X.hx X.hb dX5_smokes_28 rfl (lv_at hl 0 rfl) ?_
    refine gfX5_19 X hH ho dX5_smokes_29 ?_
    have h21 : gsh G (mP σ19 o 1) = some 1 := hH.2.2.1 _ _ _ _ ho rfl
    refine lv_aload_n X.hx X.hb dX5_smokes_32 rfl (lv_at hl 0 rfl) ?_
    refine gfX5_29 X hH ho dX5_smokes_33 ?_
    have h22 : gsh G (mP σ19 o 3) = some 2 := hH.2.2.1 _ _ _ _ ho rfl
    refine gfX5_214 X hH h22 dX5_smokes_36 ?_
    refine lv_iload_n X.hx X.hb dX5_smokes_39 rfl (lv_at hl 1 rfl) ?_
    obtain ⟨r23, hr, hf⟩ := bd_e hf
    refine g_callVI (As := [.int (mI σ19 (mP σ19 o 3) 3), .int x1]) (rest := [.ref (gad G (mP σ19 o 3) 0)]) X (kX1_smoked l h21 hr) (C := RX1) (T := TX1) (N := 11) (ci := 1) rfl h21 ⟨cdX1_smoked, mlX5_220, imX1_smoked, seX1_smoked, iniX1⟩ hvX1_smoked ⟨Nat.le_of_ble_eq_true rfl, Nat.le_of_ble_eq_true rfl⟩ hH hS hl rfl rfl (Nat.le_of_ble_eq_true rfl) ⟨Nat.le_refl 0, Nat.le_refl 0⟩ dX5_smokes_40 (fun H locs hH hS => ?_)
    refine pfX5_214 X hH hS h20  dX5_smokes_43 (fun H locs hH hS => ?_)
    obtain ⟨σ24, he, hf⟩ := stp_e hf
    rw [← he] at hH
    clear he
    refine lv_aload_n X.hx X.hb dX5_smokes_46 rfl (lv_at hl 0 rfl) ?_
    refine gfX5_29 X hH ho dX5_smokes_47 ?_
    have h25 : gsh G (mP σ24 o 3) = some 2 := hH.2.2.1 _ _ _ _ ho rfl
    refine gfX5_214 X hH h25 dX5_smokes_50 ?_
    obtain ⟨r26, hr, hf⟩ := bd_e hf
    refine g_callSI (As := [.int (mI σ24 (mP σ24 o 3) 3)]) (rest := []) X (kX5_lostIn l  hr) ⟨cdX5_lostIn, mlX5_223, stX5_lostIn, iniX5⟩ hsX5_lostIn ⟨Nat.le_of_ble_eq_true rfl, Nat.le_of_ble_eq_true rfl⟩ hH hS hl rfl rfl (Nat.le_of_ble_eq_true rfl) ⟨Nat.le_refl 0, Nat.le_refl 0⟩ dX5_smokes_53 (fun H locs hH hS => ?_)
    have e := so2 hf
    rw [e.2] at hH
    exact g_iret X hH hS rfl e.1 dX5_smokes_56
  · have hf := it_p hf c16
    refine lv_iconst (v := -1) X.hx X.hb dX5_smokes_11 (by decide) ?_
    have e := so2 hf
    rw [e.2] at hH
    exact g_iret X hH hS rfl e.1 dX5_smokes_12
set_option maxRecDepth 20000 in
set_option maxHeartbeats 4000000 in
theorem bX5_wordAt_9 {p : Program} {l : Launch} {e : Env} {s : State} {m : MethodId} {args : Array Value} {below : List Frame} {meth : Method} {c : Code} {G : gG} (X : gX p s m args meth c yX5_wordAt cX5_wordAt 4 (some .int) RX5 G)  {σ : Mem} {r : Int32} : (∀ (n : Nat) (x1 : Int32) (x2 : Int32) (x3 : Int32), fX5_wordAt_9 n x1 x2 x3 = some r → ∀ (H : Heap) (locs : List Loc) (ls : Array Slot), gH G σ H → va_S (gAA G) s.heap H locs → lv_has ls 4 [(1, .int x1), (2, .int x2), (3, .int x3)] → WB p l e 1 22 s m args below meth c G (some (.int r)) σ H locs (F0 m 9 ls [])) := by
  intro n
  induction n with
  | zero => intro x1 x2 x3 hf H locs ls hH hS hl; exact nomatch (show (none : Option Int32) = some _ from hf)
  | succ n ih =>
    intro x1 x2 x3 hf H locs ls hH hS hl
    rw [fX5_wordAt_9.eq_2] at hf
    refine lv_iload_n X.hx X.hb dX5_wordAt_9 rfl (lv_at hl 2 rfl) ?_
    refine lv_iload_n X.hx X.hb dX5_wordAt_10 rfl (lv_at hl 0 rfl) ?_
    refine lv_icmp_le (tgt := 25) X.hx X.hb dX5_wordAt_11 (by decide) (fun c3 => ?_) (fun c3 => ?_)
    · have hf := it_p hf c3
      refine lv_iload_n X.hx X.hb dX5_wordAt_25 rfl (lv_at hl 1 rfl) ?_
      refine lv_bipush (v := 11) X.hx X.hb dX5_wordAt_26 (by decide) ?_
      refine lv_irem X.hx X.hb dX5_wordAt_28 (by decide) ?_
      exact g_iret X hH hS rfl (so1 hf) dX5_wordAt_29
    · have hf := it_n hf c3
      refine lv_iload_n X.hx X.hb dX5_wordAt_14 rfl (lv_at hl 1 rfl) ?_
      refine lv_bipush (v := 11) X.hx X.hb dX5_wordAt_15 (by decide) ?_
      refine lv_idiv X.hx X.hb dX5_wordAt_17 (by decide) ?_
      refine lv_istore_n (lv' := [(2, .int (x2 / (11 : Int32))), (1, .int x1), (3, .int x3)]) X.hx X.hb dX5_wordAt_18 rfl hl (by decide) rfl (fun ls hl => ?_)
      refine lv_iinc (v := x3 + (-1)) (lv' := [(3, .int (x3 + (-1))), (2, .int (x2 / (11 : Int32))), (1, .int x1)]) X.hx X.hb dX5_wordAt_19 hl (k := 2) rfl rfl (by decide) rfl (fun ls hl => ?_)
      refine lv_goto (tgt := 9) X.hx X.hb dX5_wordAt_22 (by decide) ?_
      exact ih _ _ _  hf _ _ _ hH hS (lv_sub hl [2, 1, 0] rfl)
set_option maxRecDepth 20000 in
set_option maxHeartbeats 4000000 in
theorem kX5_wordAt (l : Launch) {G : gG} {σ : Mem} {r : Int32} {x0 : Int32} {x1 : Int32}  (hf : fX5_wordAt x0 x1 = some r) : CM l yX5_wordAt cX5_wordAt 4 (some .int) 1 22 G σ [.int x0, .int x1] (some (.int r)) σ := by
  refine CM.of (by decide) (Nat.le_of_ble_eq_true rfl) (fun p e s m below meth c ls X hH hl => ?_)
  have X : gX p s m _ meth c yX5_wordAt cX5_wordAt 4 (some .int) RX5 G := X
  have hS : va_S (gAA G) s.heap s.heap [] := va_S.rf
  have hl : lv_has ls 4 [(0, .int x0), (1, .int x1)] := hl
  rw [fX5_wordAt.eq_1] at hf
  refine lv_iload_n X.hx X.hb dX5_wordAt_0 rfl (lv_at hl 0 rfl) ?_
  refine lv_istore_n (lv' := [(2, .int x0), (0, .int x0), (1, .int x1)]) X.hx X.hb dX5_wordAt_1 rfl hl (by decide) rfl (fun ls hl => ?_)
  refine lv_iload_n X.hx X.hb dX5_wordAt_2 rfl (lv_at hl 1 rfl) ?_
  obtain ⟨r4, hr, hf⟩ := bd_e hf
  refine g_callSI (As := [.int x0]) (rest := []) X (kX5_lengthOf l  hr) ⟨cdX5_lengthOf, mlX5_217, stX5_lengthOf, iniX5⟩ hsX5_lengthOf ⟨Nat.le_of_ble_eq_true rfl, Nat.le_of_ble_eq_true rfl⟩ hH hS hl rfl rfl (Nat.le_of_ble_eq_true rfl) ⟨Nat.le_refl 0, Nat.le_refl 0⟩ dX5_wordAt_3 (fun H locs hH hS => ?_)
  refine lv_iconst (v := 1) X.hx X.hb dX5_wordAt_6 (by decide) ?_
  refine lv_isub X.hx X.hb dX5_wordAt_7 ?_
  refine lv_istore_n (lv' := [(3, .int (r4 - (1 : Int32))), (2, .int x0), (0, .int x0), (1, .int x1)]) X.hx X.hb dX5_wordAt_8 rfl hl (by decide) rfl (fun ls hl => ?_)
  exact bX5_wordAt_9 X    _ _ _ _  hf _ _ _ hH hS (lv_sub hl [3, 1, 0] rfl)
set_option maxRecDepth 20000 in
set_option maxHeartbeats 4000000 in
theorem kX5_word (l : Launch) {G : gG} {σ : Mem} {r : Int32} {o : Nat} {x1 : Int32} (ho : gsh G o = some 5)  (hf : fX5_word σ o x1 = some r) : CM l yX5_word cX5_word 2 (some .int) 2 45 G σ [.ref (gad G o 0), .int x1] (some (.int r)) σ := by
  refine CM.of (by decide) (Nat.le_of_ble_eq_true rfl) (fun p e s m below meth c ls X hH hl => ?_)
  have X : gX p s m _ meth c yX5_word cX5_word 2 (some .int) RX5 G := X
  have hS : va_S (gAA G) s.heap s.heap [] := va_S.rf
  have hl : lv_has ls 2 [(0, .ref (gad G o 0)), (1, .int x1)] := hl
  rw [fX5_word.eq_1] at hf
  refine lv_iload_n X.hx X.hb dX5_word_0 rfl (lv_at hl 1 rfl) ?_
  refine lv_if_lt (tgt := 18) X.hx X.hb dX5_word_1 (by decide) (fun c7 => ?_) (fun c7 => ?_)
  · have hf := it_p hf c7
    refine lv_iconst (v := -1) X.hx X.hb dX5_word_18 (by decide) ?_
    exact g_iret X hH hS rfl (so1 hf) dX5_word_19
  · have hf := it_n hf c7
    refine lv_iload_n X.hx X.hb dX5_word_4 rfl (lv_at hl 1 rfl) ?_
    refine lv_aload_n X.hx X.hb dX5_word_5 rfl (lv_at hl 0 rfl) ?_
    refine gfX5_29 X hH ho dX5_word_6 ?_
    have h8 : gsh G (mP σ o 3) = some 2 := hH.2.2.1 _ _ _ _ ho rfl
    refine gfX5_214 X hH h8 dX5_word_9 ?_
    obtain ⟨r9, hr, hf⟩ := bd_e hf
    refine g_callSI (As := [.int (mI σ (mP σ o 3) 3)]) (rest := [.int x1]) X (kX5_lengthOf l  hr) ⟨cdX5_lengthOf, mlX5_217, stX5_lengthOf, iniX5⟩ hsX5_lengthOf ⟨Nat.le_of_ble_eq_true rfl, Nat.le_of_ble_eq_true rfl⟩ hH hS hl rfl rfl (Nat.le_of_ble_eq_true rfl) ⟨Nat.le_refl 0, Nat.le_refl 0⟩ dX5_word_12 (fun H locs hH hS => ?_)
    refine lv_icmp_lt (tgt := 20) X.hx X.hb dX5_word_15 (by decide) (fun c10 => ?_) (fun c10 => ?_)
    · have hf := it_p hf c10
      refine lv_aload_n X.hx X.hb dX5_word_20 rfl (lv_at hl 0 rfl) ?_
      refine gfX5_29 X hH ho dX5_word_21 ?_
      have h11 : gsh G (mP σ o 3) = some 2 := hH.2.2.1 _ _ _ _ ho rfl
      refine gfX5_214 X hH h11 dX5_word_24 ?_
      refine lv_iload_n X.hx X.hb dX5_word_27 rfl (lv_at hl 1 rfl) ?_
      obtain ⟨r12, hr, hf⟩ := bd_e hf
      refine g_callSI (As := [.int (mI σ (mP σ o 3) 3), .int x1]) (rest := []) X (kX5_wordAt l  hr) ⟨cdX5_wordAt, mlX5_226, stX5_wordAt, iniX5⟩ hsX5_wordAt ⟨Nat.le_of_ble_eq_true rfl, Nat.le_of_ble_eq_true rfl⟩ hH hS hl rfl rfl (Nat.le_of_ble_eq_true rfl) ⟨Nat.le_refl 0, Nat.le_refl 0⟩ dX5_word_28 (fun H locs hH hS => ?_)
      exact g_iret X hH hS rfl (so1 hf) dX5_word_31
    · have hf := it_n hf c10
      refine lv_iconst (v := -1) X.hx X.hb dX5_word_18 (by decide) ?_
      exact g_iret X hH hS rfl (so1 hf) dX5_word_19
set_option maxRecDepth 20000 in
set_option maxHeartbeats 4000000 in
theorem kX5_brownLength (l : Launch) {G : gG} {σ : Mem} {r : Int32} {o : Nat} (ho : gsh G o = some 5)  (hf : fX5_brownLength σ o = some r) : CM l yX5_brownLength cX5_brownLength 1 (some .int) 1 22 G σ [.ref (gad G o 0)] (some (.int r)) σ := by
  refine CM.of (by decide) (Nat.le_of_ble_eq_true rfl) (fun p e s m below meth c ls X hH hl => ?_)
  have X : gX p s m _ meth c yX5_brownLength cX5_brownLength 1 (some .int) RX5 G := X
  have hS : va_S (gAA G) s.heap s.heap [] := va_S.rf
  have hl : lv_has ls 1 [(0, .ref (gad G o 0))] := hl
  rw [fX5_brownLength.eq_1] at hf
  refine lv_aload_n X.hx X.hb dX5_brownLength_0 rfl (lv_at hl 0 rfl) ?_
  refine gfX5_62 X hH ho dX5_brownLength_1 ?_
  refine lv_if_ne (tgt := 11) X.hx X.hb dX5_brownLength_4 (by decide) (fun c3 => ?_) (fun c3 => ?_)
  · have hf := it_n hf c3
    refine lv_aload_n X.hx X.hb dX5_brownLength_11 rfl (lv_at hl 0 rfl) ?_
    refine gfX5_55 X hH ho dX5_brownLength_12 ?_
    refine lv_iconst (v := 0) X.hx X.hb dX5_brownLength_15 (by decide) ?_
    obtain ⟨hg, hf⟩ := gd_e hf
    refine g_iald X hH ⟨_, ho, rfl⟩ hg dX5_brownLength_16 ?_
    obtain ⟨r4, hr, hf⟩ := bd_e hf
    refine g_callSI (As := [.int (mA σ o 8 (0 : Int32).toNatClampNeg)]) (rest := []) X (kX5_lengthOf l  hr) ⟨cdX5_lengthOf, mlX5_217, stX5_lengthOf, iniX5⟩ hsX5_lengthOf ⟨Nat.le_of_ble_eq_true rfl, Nat.le_of_ble_eq_true rfl⟩ hH hS hl rfl rfl (Nat.le_of_ble_eq_true rfl) ⟨Nat.le_refl 0, Nat.le_refl 0⟩ dX5_brownLength_17 (fun H locs hH hS => ?_)
    exact g_iret X hH hS rfl (so1 hf) dX5_brownLength_20
  · have hf := it_p hf c3
    refine lv_iconst (v := 0) X.hx X.hb dX5_brownLength_7 (by decide) ?_
    refine lv_goto (tgt := 20) X.hx X.hb dX5_brownLength_8 (by decide) ?_
    exact g_iret X hH hS rfl (so1 hf) dX5_brownLength_20
set_option maxRecDepth 20000 in
set_option maxHeartbeats 4000000 in
theorem bX5_brown_46 {p : Program} {l : Launch} {e : Env} {s : State} {m : MethodId} {args : Array Value} {below : List Frame} {meth : Method} {c : Code} {G : gG} (X : gX p s m args meth c yX5_brown cX5_brown 3 (some .int) RX5 G) {o : Nat} (ho : gsh G o = some 5)  {r : Int32} {σ' : Mem} : (∀ (σ : Mem) (x1 : Int32), fX5_brown_46 o σ x1 = some (r, σ') → ∀ (H : Heap) (locs : List Loc) (ls : Array Slot), gH G σ H → va_S (gAA G) s.heap H locs → lv_has ls 3 [(0, .ref (gad G o 0)), (1, .int x1)] → WB p l e 2 42 s m args below meth c G (some (.int r)) σ' H locs (F0 m 46 ls [])) := by
  intro σ x1 hf H locs ls hH hS hl
  rw [fX5_brown_46.eq_1] at hf
  refine lv_aload_n X.hx X.hb dX5_brown_46 rfl (lv_at hl 0 rfl) ?_
  refine gfX5_62 X hH ho dX5_brown_47 ?_
  refine lv_iconst (v := 4) X.hx X.hb dX5_brown_50 (by decide) ?_
  refine lv_icmp_lt (tgt := 57) X.hx X.hb dX5_brown_51 (by decide) (fun c15 => ?_) (fun c15 => ?_)
  · have hf := it_p hf c15
    refine lv_aload_n X.hx X.hb dX5_brown_57 rfl (lv_at hl 0 rfl) ?_
    refine gfX5_55 X hH ho dX5_brown_58 ?_
    refine lv_aload_n X.hx X.hb dX5_brown_61 rfl (lv_at hl 0 rfl) ?_
    refine gfX5_62 X hH ho dX5_brown_62 ?_
    refine lv_aload_n X.hx X.hb dX5_brown_65 rfl (lv_at hl 0 rfl) ?_
    refine gfX5_29 X hH ho dX5_brown_66 ?_
    have h16 : gsh G (mP σ o 3) = some 2 := hH.2.2.1 _ _ _ _ ho rfl
    refine gfX5_214 X hH h16 dX5_brown_69 ?_
    obtain ⟨hg, hf⟩ := gd_e hf
    refine g_iast X hH hS ⟨_, ho, rfl⟩ hg dX5_brown_72 (fun H locs hH hS => ?_)
    obtain ⟨σ17, he, hf⟩ := stp_e hf
    rw [← he] at hH
    clear he
    refine lv_aload_n X.hx X.hb dX5_brown_73 rfl (lv_at hl 0 rfl) ?_
    refine gfX5_59 X hH ho dX5_brown_74 ?_
    refine lv_aload_n X.hx X.hb dX5_brown_77 rfl (lv_at hl 0 rfl) ?_
    refine gfX5_62 X hH ho dX5_brown_78 ?_
    refine lv_iload_n X.hx X.hb dX5_brown_81 rfl (lv_at hl 1 rfl) ?_
    obtain ⟨hg, hf⟩ := gd_e hf
    refine g_iast X hH hS ⟨_, ho, rfl⟩ hg dX5_brown_82 (fun H locs hH hS => ?_)
    obtain ⟨σ18, he, hf⟩ := stp_e hf
    rw [← he] at hH
    clear he
    refine lv_aload_n X.hx X.hb dX5_brown_83 rfl (lv_at hl 0 rfl) ?_
    refine lv_dup X.hx X.hb dX5_brown_84 rfl ?_
    refine gfX5_62 X hH ho dX5_brown_85 ?_
    refine lv_iconst (v := 1) X.hx X.hb dX5_brown_88 (by decide) ?_
    refine lv_iadd X.hx X.hb dX5_brown_89 ?_
    refine pfX5_62 X hH hS ho  dX5_brown_90 (fun H locs hH hS => ?_)
    obtain ⟨σ19, he, hf⟩ := stp_e hf
    rw [← he] at hH
    clear he
    refine lv_aload_n X.hx X.hb dX5_brown_93 rfl (lv_at hl 0 rfl) ?_
    refine gfX5_62 X hH ho dX5_brown_94 ?_
    have e := so2 hf
    rw [e.2] at hH
    exact g_iret X hH hS rfl e.1 dX5_brown_97
  · have hf := it_n hf c15
    refine lv_bipush (v := -3) X.hx X.hb dX5_brown_54 (by decide) ?_
    have e := so2 hf
    rw [e.2] at hH
    exact g_iret X hH hS rfl e.1 dX5_brown_56
set_option maxRecDepth 20000 in
set_option maxHeartbeats 4000000 in
theorem kX5_brown (l : Launch) {G : gG} {σ : Mem} {r : Int32} {σ' : Mem} {o : Nat} {x1 : Int32} (ho : gsh G o = some 5)  (hf : fX5_brown σ o x1 = some (r, σ')) : CM l yX5_brown cX5_brown 3 (some .int) 2 42 G σ [.ref (gad G o 0), .int x1] (some (.int r)) σ' := by
  refine CM.of (by decide) (Nat.le_of_ble_eq_true rfl) (fun p e s m below meth c ls X hH hl => ?_)
  have X : gX p s m _ meth c yX5_brown cX5_brown 3 (some .int) RX5 G := X
  have hS : va_S (gAA G) s.heap s.heap [] := va_S.rf
  have hl : lv_has ls 3 [(0, .ref (gad G o 0)), (1, .int x1)] := hl
  rw [fX5_brown.eq_1] at hf
  refine lv_aload_n X.hx X.hb dX5_brown_0 rfl (lv_at hl 0 rfl) ?_
  refine gfX5_19 X hH ho dX5_brown_1 ?_
  have h20 : gsh G (mP σ o 1) = some 1 := hH.2.2.1 _ _ _ _ ho rfl
  refine lv_iload_n X.hx X.hb dX5_brown_4 rfl (lv_at hl 1 rfl) ?_
  obtain ⟨r21, hr, hf⟩ := bd_e hf
  refine g_callVI (As := [.int x1]) (rest := []) X (kX1_hasClerk l h20 hr) (C := RX1) (T := TX1) (N := 11) (ci := 1) rfl h20 ⟨cdX1_hasClerk, mlX5_111, imX1_hasClerk, seX1_hasClerk, iniX1⟩ hvX1_hasClerk ⟨Nat.le_of_ble_eq_true rfl, Nat.le_of_ble_eq_true rfl⟩ hH hS hl rfl rfl (Nat.le_of_ble_eq_true rfl) ⟨Nat.le_refl 0, Nat.le_refl 0⟩ dX5_brown_5 (fun H locs hH hS => ?_)
  refine lv_if_ne (tgt := 13) X.hx X.hb dX5_brown_8 (by decide) (fun c22 => ?_) (fun c22 => ?_)
  · have hf := it_n hf c22
    refine lv_aload_n X.hx X.hb dX5_brown_13 rfl (lv_at hl 0 rfl) ?_
    refine gfX5_29 X hH ho dX5_brown_14 ?_
    have h23 : gsh G (mP σ o 3) = some 2 := hH.2.2.1 _ _ _ _ ho rfl
    refine gfX5_214 X hH h23 dX5_brown_17 ?_
    obtain ⟨r24, hr, hf⟩ := bd_e hf
    refine g_callSI (As := [.int (mI σ (mP σ o 3) 3)]) (rest := []) X (kX5_lengthOf l  hr) ⟨cdX5_lengthOf, mlX5_217, stX5_lengthOf, iniX5⟩ hsX5_lengthOf ⟨Nat.le_of_ble_eq_true rfl, Nat.le_of_ble_eq_true rfl⟩ hH hS hl rfl rfl (Nat.le_of_ble_eq_true rfl) ⟨Nat.le_refl 0, Nat.le_refl 0⟩ dX5_brown_20 (fun H locs hH hS => ?_)
    refine lv_istore_n (lv' := [(2, .int r24), (0, .ref (gad G o 0)), (1, .int x1)]) X.hx X.hb dX5_brown_23 rfl hl (by decide) rfl (fun ls hl => ?_)
    refine lv_iload_n X.hx X.hb dX5_brown_24 rfl (lv_at hl 0 rfl) ?_
    refine lv_if_eq (tgt := 43) X.hx X.hb dX5_brown_25 (by decide) (fun c25 => ?_) (fun c25 => ?_)
    · have hf := it_p hf c25
      refine lv_bipush (v := -2) X.hx X.hb dX5_brown_43 (by decide) ?_
      have e := so2 hf
      rw [e.2] at hH
      exact g_iret X hH hS rfl e.1 dX5_brown_45
    · have hf := it_n hf c25
      refine lv_aload_n X.hx X.hb dX5_brown_28 rfl (lv_at hl 1 rfl) ?_
      refine gfX5_62 X hH ho dX5_brown_29 ?_
      refine lv_if_le (tgt := 46) X.hx X.hb dX5_brown_32 (by decide) (fun c26 => ?_) (fun c26 => ?_)
      · have hf := it_p hf c26
        exact bX5_brown_46 X  ho   _ _  hf _ _ _ hH hS (lv_sub hl [1, 2] rfl)
      · have hf := it_n hf c26
        refine lv_iload_n X.hx X.hb dX5_brown_35 rfl (lv_at hl 0 rfl) ?_
        refine lv_aload_n X.hx X.hb dX5_brown_36 rfl (lv_at hl 1 rfl) ?_
        obtain ⟨r27, hr, hf⟩ := bd_e hf
        refine g_callVI (As := []) (rest := [.int r24]) X (kX5_brownLength l ho hr) (C := RX5) (T := TX5) (N := 14) (ci := 5) rfl ho ⟨cdX5_brownLength, mlX5_229, imX5_brownLength, seX5_brownLength, iniX5⟩ hvX5_brownLength ⟨Nat.le_of_ble_eq_true rfl, Nat.le_of_ble_eq_true rfl⟩ hH hS hl rfl rfl (Nat.le_of_ble_eq_true rfl) ⟨Nat.le_refl 0, Nat.le_refl 0⟩ dX5_brown_37 (fun H locs hH hS => ?_)
        refine lv_icmp_eq (tgt := 46) X.hx X.hb dX5_brown_40 (by decide) (fun c28 => ?_) (fun c28 => ?_)
        · have hf := it_p hf c28
          exact bX5_brown_46 X  ho   _ _  hf _ _ _ hH hS (lv_sub hl [1, 2] rfl)
        · have hf := it_n hf c28
          refine lv_bipush (v := -2) X.hx X.hb dX5_brown_43 (by decide) ?_
          have e := so2 hf
          rw [e.2] at hH
          exact g_iret X hH hS rfl e.1 dX5_brown_45
  · have hf := it_p hf c22
    refine lv_iconst (v := -1) X.hx X.hb dX5_brown_11 (by decide) ?_
    have e := so2 hf
    rw [e.2] at hH
    exact g_iret X hH hS rfl e.1 dX5_brown_12
set_option maxRecDepth 20000 in
set_option maxHeartbeats 4000000 in
theorem kX5_burn (l : Launch) {G : gG} {σ : Mem} {r : Int32} {σ' : Mem} {o : Nat} (ho : gsh G o = some 5)  (hf : fX5_burn σ o = some (r, σ')) : CM l yX5_burn cX5_burn 2 (some .int) 0 0 G σ [.ref (gad G o 0)] (some (.int r)) σ' := by
  refine CM.of (by decide) (Nat.le_of_ble_eq_true rfl) (fun p e s m below meth c ls X hH hl => ?_)
  have X : gX p s m _ meth c yX5_burn cX5_burn 2 (some .int) RX5 G := X
  have hS : va_S (gAA G) s.heap s.heap [] := va_S.rf
  have hl : lv_has ls 2 [(0, .ref (gad G o 0))] := hl
  rw [fX5_burn.eq_1] at hf
  refine lv_aload_n X.hx X.hb dX5_burn_0 rfl (lv_at hl 0 rfl) ?_
  refine gfX5_62 X hH ho dX5_burn_1 ?_
  refine lv_istore_n (lv' := [(1, .int (mI σ o 10)), (0, .ref (gad G o 0))]) X.hx X.hb dX5_burn_4 rfl hl (by decide) rfl (fun ls hl => ?_)
  refine lv_aload_n X.hx X.hb dX5_burn_5 rfl (lv_at hl 1 rfl) ?_
  refine lv_iconst (v := 0) X.hx X.hb dX5_burn_6 (by decide) ?_
  refine pfX5_62 X hH hS ho  dX5_burn_7 (fun H locs hH hS => ?_)
  obtain ⟨σ2, he, hf⟩ := stp_e hf
  rw [← he] at hH
  clear he
  refine lv_iload_n X.hx X.hb dX5_burn_10 rfl (lv_at hl 0 rfl) ?_
  have e := so2 hf
  rw [e.2] at hH
  exact g_iret X hH hS rfl e.1 dX5_burn_11
set_option maxRecDepth 20000 in
set_option maxHeartbeats 4000000 in
theorem bX5_mayHaveStood_6 {p : Program} {l : Launch} {e : Env} {s : State} {m : MethodId} {args : Array Value} {below : List Frame} {meth : Method} {c : Code} {G : gG} (X : gX p s m args meth c yX5_mayHaveStood cX5_mayHaveStood 4 (some .int) RX5 G) {o : Nat} (ho : gsh G o = some 5)  {σ : Mem} {r : Int32} : (∀ (n : Nat) (x1 : Int32) (x2 : Int32) (x3 : Int32), fX5_mayHaveStood_6 σ o n x1 x2 x3 = some r → ∀ (H : Heap) (locs : List Loc) (ls : Array Slot), gH G σ H → va_S (gAA G) s.heap H locs → lv_has ls 4 [(0, .ref (gad G o 0)), (1, .int x1), (2, .int x2), (3, .int x3)] → WB p l e 2 46 s m args below meth c G (some (.int r)) σ H locs (F0 m 6 ls [])) := by
  intro n
  induction n with
  | zero => intro x1 x2 x3 hf H locs ls hH hS hl; exact nomatch (show (none : Option Int32) = some _ from hf)
  | succ n ih =>
    intro x1 x2 x3 hf H locs ls hH hS hl
    rw [fX5_mayHaveStood_6.eq_2] at hf
    refine lv_iload_n X.hx X.hb dX5_mayHaveStood_6 rfl (lv_at hl 3 rfl) ?_
    refine lv_aload_n X.hx X.hb dX5_mayHaveStood_7 rfl (lv_at hl 0 rfl) ?_
    refine gfX5_62 X hH ho dX5_mayHaveStood_8 ?_
    refine lv_icmp_ge (tgt := 46) X.hx X.hb dX5_mayHaveStood_11 (by decide) (fun c5 => ?_) (fun c5 => ?_)
    · have hf := it_p hf c5
      refine lv_iload_n X.hx X.hb dX5_mayHaveStood_46 rfl (lv_at hl 2 rfl) ?_
      exact g_iret X hH hS rfl (so1 hf) dX5_mayHaveStood_47
    · have hf := it_n hf c5
      refine lv_iload_n X.hx X.hb dX5_mayHaveStood_14 rfl (lv_at hl 2 rfl) ?_
      refine lv_aload_n X.hx X.hb dX5_mayHaveStood_15 rfl (lv_at hl 0 rfl) ?_
      refine gfX5_19 X hH ho dX5_mayHaveStood_16 ?_
      have h6 : gsh G (mP σ o 1) = some 1 := hH.2.2.1 _ _ _ _ ho rfl
      refine lv_aload_n X.hx X.hb dX5_mayHaveStood_19 rfl (lv_at hl 0 rfl) ?_
      refine gfX5_55 X hH ho dX5_mayHaveStood_20 ?_
      refine lv_iload_n X.hx X.hb dX5_mayHaveStood_23 rfl (lv_at hl 3 rfl) ?_
      obtain ⟨hg, hf⟩ := gd_e hf
      refine g_iald X hH ⟨_, ho, rfl⟩ hg dX5_mayHaveStood_24 ?_
      refine lv_iload_n X.hx X.hb dX5_mayHaveStood_25 rfl (lv_at hl 1 rfl) ?_
      obtain ⟨r7, hr, hf⟩ := bd_e hf
      refine g_callSI (As := [.int (mA σ o 8 x3.toNatClampNeg), .int x1]) (rest := [.ref (gad G (mP σ o 1) 0), .int x2]) X (kX5_wordAt l  hr) ⟨cdX5_wordAt, mlX5_226, stX5_wordAt, iniX5⟩ hsX5_wordAt ⟨Nat.le_of_ble_eq_true rfl, Nat.le_of_ble_eq_true rfl⟩ hH hS hl rfl rfl (Nat.le_of_ble_eq_true rfl) ⟨Nat.le_refl 0, Nat.le_refl 0⟩ dX5_mayHaveStood_26 (fun H locs hH hS => ?_)
      refine lv_aload_n X.hx X.hb dX5_mayHaveStood_29 rfl (lv_at hl 0 rfl) ?_
      refine gfX5_59 X hH ho dX5_mayHaveStood_30 ?_
      refine lv_iload_n X.hx X.hb dX5_mayHaveStood_33 rfl (lv_at hl 3 rfl) ?_
      obtain ⟨hg, hf⟩ := gd_e hf
      refine g_iald X hH ⟨_, ho, rfl⟩ hg dX5_mayHaveStood_34 ?_
      obtain ⟨r8, hr, hf⟩ := bd_e hf
      refine g_callVI (As := [.int r7, .int (mA σ o 9 x3.toNatClampNeg)]) (rest := [.int x2]) X (kX1_copiedFrom l h6 hr) (C := RX1) (T := TX1) (N := 11) (ci := 1) rfl h6 ⟨cdX1_copiedFrom, mlX5_285, imX1_copiedFrom, seX1_copiedFrom, iniX1⟩ hvX1_copiedFrom ⟨Nat.le_of_ble_eq_true rfl, Nat.le_of_ble_eq_true rfl⟩ hH hS hl rfl rfl (Nat.le_of_ble_eq_true rfl) ⟨Nat.le_refl 0, Nat.le_refl 0⟩ dX5_mayHaveStood_35 (fun H locs hH hS => ?_)
      refine lv_iand X.hx X.hb dX5_mayHaveStood_38 ?_
      refine lv_istore_n (lv' := [(2, .int (x2 &&& r8)), (0, .ref (gad G o 0)), (1, .int x1), (3, .int x3)]) X.hx X.hb dX5_mayHaveStood_39 rfl hl (by decide) rfl (fun ls hl => ?_)
      refine lv_iinc (v := x3 + 1) (lv' := [(3, .int (x3 + 1)), (2, .int (x2 &&& r8)), (0, .ref (gad G o 0)), (1, .int x1)]) X.hx X.hb dX5_mayHaveStood_40 hl (k := 3) rfl rfl (by decide) rfl (fun ls hl => ?_)
      refine lv_goto (tgt := 6) X.hx X.hb dX5_mayHaveStood_43 (by decide) ?_
      exact ih _ _ _  hf _ _ _ hH hS (lv_sub hl [2, 3, 1, 0] rfl)
set_option maxRecDepth 20000 in
set_option maxHeartbeats 4000000 in
theorem kX5_mayHaveStood (l : Launch) {G : gG} {σ : Mem} {r : Int32} {o : Nat} {x1 : Int32} (ho : gsh G o = some 5)  (hf : fX5_mayHaveStood σ o x1 = some r) : CM l yX5_mayHaveStood cX5_mayHaveStood 4 (some .int) 2 46 G σ [.ref (gad G o 0), .int x1] (some (.int r)) σ := by
  refine CM.of (by decide) (Nat.le_of_ble_eq_true rfl) (fun p e s m below meth c ls X hH hl => ?_)
  have X : gX p s m _ meth c yX5_mayHaveStood cX5_mayHaveStood 4 (some .int) RX5 G := X
  have hS : va_S (gAA G) s.heap s.heap [] := va_S.rf
  have hl : lv_has ls 4 [(0, .ref (gad G o 0)), (1, .int x1)] := hl
  rw [fX5_mayHaveStood.eq_1] at hf
  refine lv_sipush (v := 1023) X.hx X.hb dX5_mayHaveStood_0 (by decide) ?_
  refine lv_istore_n (lv' := [(2, .int (1023 : Int32)), (0, .ref (gad G o 0)), (1, .int x1)]) X.hx X.hb dX5_mayHaveStood_3 rfl hl (by decide) rfl (fun ls hl => ?_)
  refine lv_iconst (v := 0) X.hx X.hb dX5_mayHaveStood_4 (by decide) ?_
  refine lv_istore_n (lv' := [(3, .int (0 : Int32)), (2, .int (1023 : Int32)), (0, .ref (gad G o 0)), (1, .int x1)]) X.hx X.hb dX5_mayHaveStood_5 rfl hl (by decide) rfl (fun ls hl => ?_)
  exact bX5_mayHaveStood_6 X  ho  _ _ _ _  hf _ _ _ hH hS (lv_sub hl [2, 3, 1, 0] rfl)
set_option maxRecDepth 20000 in
set_option maxHeartbeats 4000000 in
theorem kX5_stood (l : Launch) {G : gG} {σ : Mem} {r : Int32} {o : Nat} {x1 : Int32} (ho : gsh G o = some 5)  (hf : fX5_stood σ o x1 = some r) : CM l yX5_stood cX5_stood 2 (some .int) 3 69 G σ [.ref (gad G o 0), .int x1] (some (.int r)) σ := by
  refine CM.of (by decide) (Nat.le_of_ble_eq_true rfl) (fun p e s m below meth c ls X hH hl => ?_)
  have X : gX p s m _ meth c yX5_stood cX5_stood 2 (some .int) RX5 G := X
  have hS : va_S (gAA G) s.heap s.heap [] := va_S.rf
  have hl : lv_has ls 2 [(0, .ref (gad G o 0)), (1, .int x1)] := hl
  rw [fX5_stood.eq_1] at hf
  refine lv_iload_n X.hx X.hb dX5_stood_0 rfl (lv_at hl 1 rfl) ?_
  refine lv_if_lt (tgt := 12) X.hx X.hb dX5_stood_1 (by decide) (fun c5 => ?_) (fun c5 => ?_)
  · have hf := it_p hf c5
    refine lv_iconst (v := -1) X.hx X.hb dX5_stood_12 (by decide) ?_
    exact g_iret X hH hS rfl (so1 hf) dX5_stood_13
  · have hf := it_n hf c5
    refine lv_iload_n X.hx X.hb dX5_stood_4 rfl (lv_at hl 1 rfl) ?_
    refine lv_aload_n X.hx X.hb dX5_stood_5 rfl (lv_at hl 0 rfl) ?_
    obtain ⟨r6, hr, hf⟩ := bd_e hf
    refine g_callVI (As := []) (rest := [.int x1]) X (kX5_brownLength l ho hr) (C := RX5) (T := TX5) (N := 14) (ci := 5) rfl ho ⟨cdX5_brownLength, mlX5_229, imX5_brownLength, seX5_brownLength, iniX5⟩ hvX5_brownLength ⟨Nat.le_of_ble_eq_true rfl, Nat.le_of_ble_eq_true rfl⟩ hH hS hl rfl rfl (Nat.le_of_ble_eq_true rfl) ⟨Nat.le_refl 0, Nat.le_refl 0⟩ dX5_stood_6 (fun H locs hH hS => ?_)
    refine lv_icmp_lt (tgt := 14) X.hx X.hb dX5_stood_9 (by decide) (fun c7 => ?_) (fun c7 => ?_)
    · have hf := it_p hf c7
      refine lv_aload_n X.hx X.hb dX5_stood_14 rfl (lv_at hl 0 rfl) ?_
      refine lv_iload_n X.hx X.hb dX5_stood_15 rfl (lv_at hl 1 rfl) ?_
      obtain ⟨r8, hr, hf⟩ := bd_e hf
      refine g_callVI (As := [.int x1]) (rest := []) X (kX5_mayHaveStood l ho hr) (C := RX5) (T := TX5) (N := 14) (ci := 5) rfl ho ⟨cdX5_mayHaveStood, mlX5_233, imX5_mayHaveStood, seX5_mayHaveStood, iniX5⟩ hvX5_mayHaveStood ⟨Nat.le_of_ble_eq_true rfl, Nat.le_of_ble_eq_true rfl⟩ hH hS hl rfl rfl (Nat.le_of_ble_eq_true rfl) ⟨Nat.le_refl 0, Nat.le_refl 0⟩ dX5_stood_16 (fun H locs hH hS => ?_)
      exact g_iret X hH hS rfl (so1 hf) dX5_stood_19
    · have hf := it_n hf c7
      refine lv_iconst (v := -1) X.hx X.hb dX5_stood_12 (by decide) ?_
      exact g_iret X hH hS rfl (so1 hf) dX5_stood_13
set_option maxRecDepth 20000 in
set_option maxHeartbeats 4000000 in
theorem bX5_possibleLetters_15 {p : Program} {l : Launch} {e : Env} {s : State} {m : MethodId} {args : Array Value} {below : List Frame} {meth : Method} {c : Code} {G : gG} (X : gX p s m args meth c yX5_possibleLetters cX5_possibleLetters 3 (some .int) RX5 G) {o : Nat} (ho : gsh G o = some 5)  {σ : Mem} {r : Int32} : (∀ (n : Nat) (x1 : Int32) (x2 : Int32), fX5_possibleLetters_15 σ o n x1 x2 = some r → ∀ (H : Heap) (locs : List Loc) (ls : Array Slot), gH G σ H → va_S (gAA G) s.heap H locs → lv_has ls 3 [(0, .ref (gad G o 0)), (1, .int x1), (2, .int x2)] → WB p l e 3 69 s m args below meth c G (some (.int r)) σ H locs (F0 m 15 ls [])) := by
  intro n
  induction n with
  | zero => intro x1 x2 hf H locs ls hH hS hl; exact nomatch (show (none : Option Int32) = some _ from hf)
  | succ n ih =>
    intro x1 x2 hf H locs ls hH hS hl
    rw [fX5_possibleLetters_15.eq_2] at hf
    refine lv_iload_n X.hx X.hb dX5_possibleLetters_15 rfl (lv_at hl 2 rfl) ?_
    refine lv_aload_n X.hx X.hb dX5_possibleLetters_16 rfl (lv_at hl 0 rfl) ?_
    obtain ⟨r6, hr, hf⟩ := bd_e hf
    refine g_callVI (As := []) (rest := [.int x2]) X (kX5_brownLength l ho hr) (C := RX5) (T := TX5) (N := 14) (ci := 5) rfl ho ⟨cdX5_brownLength, mlX5_229, imX5_brownLength, seX5_brownLength, iniX5⟩ hvX5_brownLength ⟨Nat.le_of_ble_eq_true rfl, Nat.le_of_ble_eq_true rfl⟩ hH hS hl rfl rfl (Nat.le_of_ble_eq_true rfl) ⟨Nat.le_refl 0, Nat.le_refl 0⟩ dX5_possibleLetters_17 (fun H locs hH hS => ?_)
    refine lv_icmp_ge (tgt := 40) X.hx X.hb dX5_possibleLetters_20 (by decide) (fun c7 => ?_) (fun c7 => ?_)
    · have hf := it_p hf c7
      refine lv_iload_n X.hx X.hb dX5_possibleLetters_40 rfl (lv_at hl 1 rfl) ?_
      exact g_iret X hH hS rfl (so1 hf) dX5_possibleLetters_41
    · have hf := it_n hf c7
      refine lv_iload_n X.hx X.hb dX5_possibleLetters_23 rfl (lv_at hl 1 rfl) ?_
      refine lv_aload_n X.hx X.hb dX5_possibleLetters_24 rfl (lv_at hl 0 rfl) ?_
      refine lv_iload_n X.hx X.hb dX5_possibleLetters_25 rfl (lv_at hl 2 rfl) ?_
      obtain ⟨r8, hr, hf⟩ := bd_e hf
      refine g_callVI (As := [.int x2]) (rest := [.int x1]) X (kX5_mayHaveStood l ho hr) (C := RX5) (T := TX5) (N := 14) (ci := 5) rfl ho ⟨cdX5_mayHaveStood, mlX5_233, imX5_mayHaveStood, seX5_mayHaveStood, iniX5⟩ hvX5_mayHaveStood ⟨Nat.le_of_ble_eq_true rfl, Nat.le_of_ble_eq_true rfl⟩ hH hS hl rfl rfl (Nat.le_of_ble_eq_true rfl) ⟨Nat.le_refl 0, Nat.le_refl 0⟩ dX5_possibleLetters_26 (fun H locs hH hS => ?_)
      obtain ⟨r9, hr, hf⟩ := bd_e hf
      refine g_callSI (As := [.int r8]) (rest := [.int x1]) X (kJ6_bitCount_0f7a4 l  hr) ⟨cdJ6_bitCount_0f7a4, mlX5_155, stJ6_bitCount_0f7a4, iniJ6⟩ hsJ6_bitCount_0f7a4 ⟨Nat.le_of_ble_eq_true rfl, Nat.le_of_ble_eq_true rfl⟩ hH hS hl rfl rfl (Nat.le_of_ble_eq_true rfl) ⟨Nat.le_refl 0, Nat.le_refl 0⟩ dX5_possibleLetters_29 (fun H locs hH hS => ?_)
      refine lv_imul X.hx X.hb dX5_possibleLetters_32 ?_
      refine lv_istore_n (lv' := [(1, .int (x1 * r9)), (0, .ref (gad G o 0)), (2, .int x2)]) X.hx X.hb dX5_possibleLetters_33 rfl hl (by decide) rfl (fun ls hl => ?_)
      refine lv_iinc (v := x2 + 1) (lv' := [(2, .int (x2 + 1)), (1, .int (x1 * r9)), (0, .ref (gad G o 0))]) X.hx X.hb dX5_possibleLetters_34 hl (k := 2) rfl rfl (by decide) rfl (fun ls hl => ?_)
      refine lv_goto (tgt := 15) X.hx X.hb dX5_possibleLetters_37 (by decide) ?_
      exact ih _ _  hf _ _ _ hH hS (lv_sub hl [2, 1, 0] rfl)
set_option maxRecDepth 20000 in
set_option maxHeartbeats 4000000 in
theorem kX5_possibleLetters (l : Launch) {G : gG} {σ : Mem} {r : Int32} {o : Nat} (ho : gsh G o = some 5)  (hf : fX5_possibleLetters σ o = some r) : CM l yX5_possibleLetters cX5_possibleLetters 3 (some .int) 3 69 G σ [.ref (gad G o 0)] (some (.int r)) σ := by
  refine CM.of (by decide) (Nat.le_of_ble_eq_true rfl) (fun p e s m below meth c ls X hH hl => ?_)
  have X : gX p s m _ meth c yX5_possibleLetters cX5_possibleLetters 3 (some .int) RX5 G := X
  have hS : va_S (gAA G) s.heap s.heap [] := va_S.rf
  have hl : lv_has ls 3 [(0, .ref (gad G o 0))] := hl
  rw [fX5_possibleLetters.eq_1] at hf
  refine lv_aload_n X.hx X.hb dX5_possibleLetters_0 rfl (lv_at hl 0 rfl) ?_
  refine gfX5_62 X hH ho dX5_possibleLetters_1 ?_
  refine lv_if_ne (tgt := 11) X.hx X.hb dX5_possibleLetters_4 (by decide) (fun c10 => ?_) (fun c10 => ?_)
  · have hf := it_n hf c10
    refine lv_iconst (v := 1) X.hx X.hb dX5_possibleLetters_11 (by decide) ?_
    refine lv_istore_n (lv' := [(1, .int (1 : Int32)), (0, .ref (gad G o 0))]) X.hx X.hb dX5_possibleLetters_12 rfl hl (by decide) rfl (fun ls hl => ?_)
    refine lv_iconst (v := 0) X.hx X.hb dX5_possibleLetters_13 (by decide) ?_
    refine lv_istore_n (lv' := [(2, .int (0 : Int32)), (1, .int (1 : Int32)), (0, .ref (gad G o 0))]) X.hx X.hb dX5_possibleLetters_14 rfl hl (by decide) rfl (fun ls hl => ?_)
    exact bX5_possibleLetters_15 X  ho  _ _ _  hf _ _ _ hH hS (lv_sub hl [2, 1, 0] rfl)
  · have hf := it_p hf c10
    refine lv_iconst (v := 0) X.hx X.hb dX5_possibleLetters_7 (by decide) ?_
    refine lv_goto (tgt := 12) X.hx X.hb dX5_possibleLetters_8 (by decide) ?_
    refine lv_istore_n (lv' := [(1, .int (0 : Int32)), (0, .ref (gad G o 0))]) X.hx X.hb dX5_possibleLetters_12 rfl hl (by decide) rfl (fun ls hl => ?_)
    refine lv_iconst (v := 0) X.hx X.hb dX5_possibleLetters_13 (by decide) ?_
    refine lv_istore_n (lv' := [(2, .int (0 : Int32)), (1, .int (0 : Int32)), (0, .ref (gad G o 0))]) X.hx X.hb dX5_possibleLetters_14 rfl hl (by decide) rfl (fun ls hl => ?_)
    exact bX5_possibleLetters_15 X  ho  _ _ _  hf _ _ _ hH hS (lv_sub hl [2, 1, 0] rfl)
set_option maxRecDepth 20000 in
set_option maxHeartbeats 4000000 in
theorem kX5_letters (l : Launch) {G : gG} {σ : Mem} {r : Int32} {o : Nat} {x1 : Int32} (ho : gsh G o = some 5)  (hf : fX5_letters σ o x1 = some r) : CM l yX5_letters cX5_letters 3 (some .int) 4 91 G σ [.ref (gad G o 0), .int x1] (some (.int r)) σ := by
  refine CM.of (by decide) (Nat.le_of_ble_eq_true rfl) (fun p e s m below meth c ls X hH hl => ?_)
  have X : gX p s m _ meth c yX5_letters cX5_letters 3 (some .int) RX5 G := X
  have hS : va_S (gAA G) s.heap s.heap [] := va_S.rf
  have hl : lv_has ls 3 [(0, .ref (gad G o 0)), (1, .int x1)] := hl
  rw [fX5_letters.eq_1] at hf
  refine lv_iload_n X.hx X.hb dX5_letters_0 rfl (lv_at hl 1 rfl) ?_
  refine lv_bipush (v := -9) X.hx X.hb dX5_letters_1 (by decide) ?_
  refine lv_icmp_ne (tgt := 11) X.hx X.hb dX5_letters_3 (by decide) (fun c12 => ?_) (fun c12 => ?_)
  · have hf := it_n hf c12
    refine lv_iload_n X.hx X.hb dX5_letters_11 rfl (lv_at hl 1 rfl) ?_
    refine lv_if_lt (tgt := 23) X.hx X.hb dX5_letters_12 (by decide) (fun c13 => ?_) (fun c13 => ?_)
    · have hf := it_p hf c13
      refine lv_iconst (v := -1) X.hx X.hb dX5_letters_23 (by decide) ?_
      exact g_iret X hH hS rfl (so1 hf) dX5_letters_24
    · have hf := it_n hf c13
      refine lv_iload_n X.hx X.hb dX5_letters_15 rfl (lv_at hl 1 rfl) ?_
      refine lv_aload_n X.hx X.hb dX5_letters_16 rfl (lv_at hl 0 rfl) ?_
      obtain ⟨r14, hr, hf⟩ := bd_e hf
      refine g_callVI (As := []) (rest := [.int x1]) X (kX5_brownLength l ho hr) (C := RX5) (T := TX5) (N := 14) (ci := 5) rfl ho ⟨cdX5_brownLength, mlX5_229, imX5_brownLength, seX5_brownLength, iniX5⟩ hvX5_brownLength ⟨Nat.le_of_ble_eq_true rfl, Nat.le_of_ble_eq_true rfl⟩ hH hS hl rfl rfl (Nat.le_of_ble_eq_true rfl) ⟨Nat.le_refl 0, Nat.le_refl 0⟩ dX5_letters_17 (fun H locs hH hS => ?_)
      refine lv_icmp_lt (tgt := 25) X.hx X.hb dX5_letters_20 (by decide) (fun c15 => ?_) (fun c15 => ?_)
      · have hf := it_p hf c15
        refine lv_aload_n X.hx X.hb dX5_letters_25 rfl (lv_at hl 0 rfl) ?_
        obtain ⟨r16, hr, hf⟩ := bd_e hf
        refine g_callVI (As := []) (rest := []) X (kX5_possibleLetters l ho hr) (C := RX5) (T := TX5) (N := 14) (ci := 5) rfl ho ⟨cdX5_possibleLetters, mlX5_236, imX5_possibleLetters, seX5_possibleLetters, iniX5⟩ hvX5_possibleLetters ⟨Nat.le_of_ble_eq_true rfl, Nat.le_of_ble_eq_true rfl⟩ hH hS hl rfl rfl (Nat.le_of_ble_eq_true rfl) ⟨Nat.le_refl 0, Nat.le_refl 0⟩ dX5_letters_26 (fun H locs hH hS => ?_)
        refine lv_if_ne (tgt := 35) X.hx X.hb dX5_letters_29 (by decide) (fun c17 => ?_) (fun c17 => ?_)
        · have hf := it_n hf c17
          refine lv_aload_n X.hx X.hb dX5_letters_35 rfl (lv_at hl 0 rfl) ?_
          refine lv_iload_n X.hx X.hb dX5_letters_36 rfl (lv_at hl 1 rfl) ?_
          obtain ⟨r18, hr, hf⟩ := bd_e hf
          refine g_callVI (As := [.int x1]) (rest := []) X (kX5_mayHaveStood l ho hr) (C := RX5) (T := TX5) (N := 14) (ci := 5) rfl ho ⟨cdX5_mayHaveStood, mlX5_233, imX5_mayHaveStood, seX5_mayHaveStood, iniX5⟩ hvX5_mayHaveStood ⟨Nat.le_of_ble_eq_true rfl, Nat.le_of_ble_eq_true rfl⟩ hH hS hl rfl rfl (Nat.le_of_ble_eq_true rfl) ⟨Nat.le_refl 0, Nat.le_refl 0⟩ dX5_letters_37 (fun H locs hH hS => ?_)
          refine lv_istore_n (lv' := [(2, .int r18), (0, .ref (gad G o 0)), (1, .int x1)]) X.hx X.hb dX5_letters_40 rfl hl (by decide) rfl (fun ls hl => ?_)
          refine lv_iload_n X.hx X.hb dX5_letters_41 rfl (lv_at hl 0 rfl) ?_
          obtain ⟨r19, hr, hf⟩ := bd_e hf
          refine g_callSI (As := [.int r18]) (rest := []) X (kJ6_bitCount_0f7a4 l  hr) ⟨cdJ6_bitCount_0f7a4, mlX5_155, stJ6_bitCount_0f7a4, iniJ6⟩ hsJ6_bitCount_0f7a4 ⟨Nat.le_of_ble_eq_true rfl, Nat.le_of_ble_eq_true rfl⟩ hH hS hl rfl rfl (Nat.le_of_ble_eq_true rfl) ⟨Nat.le_refl 0, Nat.le_refl 0⟩ dX5_letters_42 (fun H locs hH hS => ?_)
          refine lv_iconst (v := 1) X.hx X.hb dX5_letters_45 (by decide) ?_
          refine lv_icmp_ne (tgt := 56) X.hx X.hb dX5_letters_46 (by decide) (fun c20 => ?_) (fun c20 => ?_)
          · have hf := it_n hf c20
            refine lv_bipush (v := -5) X.hx X.hb dX5_letters_56 (by decide) ?_
            exact g_iret X hH hS rfl (so1 hf) dX5_letters_58
          · have hf := it_p hf c20
            refine lv_iload_n X.hx X.hb dX5_letters_49 rfl (lv_at hl 0 rfl) ?_
            obtain ⟨r21, hr, hf⟩ := bd_e hf
            refine g_callSI (As := [.int r18]) (rest := []) X (kJ6_numberOfTrailingZeros_0f7a4 l  hr) ⟨cdJ6_numberOfTrailingZeros_0f7a4, mlX5_239, stJ6_numberOfTrailingZeros_0f7a4, iniJ6⟩ hsJ6_numberOfTrailingZeros_0f7a4 ⟨Nat.le_of_ble_eq_true rfl, Nat.le_of_ble_eq_true rfl⟩ hH hS hl rfl rfl (Nat.le_of_ble_eq_true rfl) ⟨Nat.le_refl 0, Nat.le_refl 0⟩ dX5_letters_50 (fun H locs hH hS => ?_)
            refine lv_goto (tgt := 58) X.hx X.hb dX5_letters_53 (by decide) ?_
            exact g_iret X hH hS rfl (so1 hf) dX5_letters_58
        · have hf := it_p hf c17
          refine lv_bipush (v := -9) X.hx X.hb dX5_letters_32 (by decide) ?_
          exact g_iret X hH hS rfl (so1 hf) dX5_letters_34
      · have hf := it_n hf c15
        refine lv_iconst (v := -1) X.hx X.hb dX5_letters_23 (by decide) ?_
        exact g_iret X hH hS rfl (so1 hf) dX5_letters_24
  · have hf := it_p hf c12
    refine lv_aload_n X.hx X.hb dX5_letters_6 rfl (lv_at hl 0 rfl) ?_
    obtain ⟨r22, hr, hf⟩ := bd_e hf
    refine g_callVI (As := []) (rest := []) X (kX5_possibleLetters l ho hr) (C := RX5) (T := TX5) (N := 14) (ci := 5) rfl ho ⟨cdX5_possibleLetters, mlX5_236, imX5_possibleLetters, seX5_possibleLetters, iniX5⟩ hvX5_possibleLetters ⟨Nat.le_of_ble_eq_true rfl, Nat.le_of_ble_eq_true rfl⟩ hH hS hl rfl rfl (Nat.le_of_ble_eq_true rfl) ⟨Nat.le_refl 0, Nat.le_refl 0⟩ dX5_letters_7 (fun H locs hH hS => ?_)
    exact g_iret X hH hS rfl (so1 hf) dX5_letters_10
set_option maxRecDepth 20000 in
set_option maxHeartbeats 4000000 in
theorem bX5_isWholeLetter_48 {p : Program} {l : Launch} {e : Env} {s : State} {m : MethodId} {args : Array Value} {below : List Frame} {meth : Method} {c : Code} {G : gG} (X : gX p s m args meth c yX5_isWholeLetter cX5_isWholeLetter 3 (some .boolean) RX5 G)  {σ : Mem} {r : Int32} : (∀ (x1 : Int32), fX5_isWholeLetter_48 x1 = some r → ∀ (H : Heap) (locs : List Loc) (ls : Array Slot), gH G σ H → va_S (gAA G) s.heap H locs → lv_has ls 3 [(1, .int x1)] → WB p l e 1 22 s m args below meth c G (some (.int r)) σ H locs (F0 m 48 ls [])) := by
  intro x1 hf H locs ls hH hS hl
  rw [fX5_isWholeLetter_48.eq_1] at hf
  refine lv_iload_n X.hx X.hb dX5_isWholeLetter_48 rfl (lv_at hl 0 rfl) ?_
  refine lv_iconst (v := 1) X.hx X.hb dX5_isWholeLetter_49 (by decide) ?_
  refine lv_icmp_ne (tgt := 57) X.hx X.hb dX5_isWholeLetter_50 (by decide) (fun c8 => ?_) (fun c8 => ?_)
  · have hf := it_n hf c8
    refine lv_iconst (v := 0) X.hx X.hb dX5_isWholeLetter_57 (by decide) ?_
    exact g_zret X hH hS rfl (so1 hf) (by decide) dX5_isWholeLetter_58
  · have hf := it_p hf c8
    refine lv_iconst (v := 1) X.hx X.hb dX5_isWholeLetter_53 (by decide) ?_
    refine lv_goto (tgt := 58) X.hx X.hb dX5_isWholeLetter_54 (by decide) ?_
    exact g_zret X hH hS rfl (so1 hf) (by decide) dX5_isWholeLetter_58
set_option maxRecDepth 20000 in
set_option maxHeartbeats 4000000 in
theorem bX5_isWholeLetter_26 {p : Program} {l : Launch} {e : Env} {s : State} {m : MethodId} {args : Array Value} {below : List Frame} {meth : Method} {c : Code} {G : gG} (X : gX p s m args meth c yX5_isWholeLetter cX5_isWholeLetter 3 (some .boolean) RX5 G)  {σ : Mem} {r : Int32} : (∀ (n : Nat) (x1 : Int32) (x2 : Int32), fX5_isWholeLetter_26 n x1 x2 = some r → ∀ (H : Heap) (locs : List Loc) (ls : Array Slot), gH G σ H → va_S (gAA G) s.heap H locs → lv_has ls 3 [(1, .int x1), (2, .int x2)] → WB p l e 1 22 s m args below meth c G (some (.int r)) σ H locs (F0 m 26 ls [])) := by
  intro n
  induction n with
  | zero => intro x1 x2 hf H locs ls hH hS hl; exact nomatch (show (none : Option Int32) = some _ from hf)
  | succ n ih =>
    intro x1 x2 hf H locs ls hH hS hl
    rw [fX5_isWholeLetter_26.eq_2] at hf
    refine lv_iload_n X.hx X.hb dX5_isWholeLetter_26 rfl (lv_at hl 1 rfl) ?_
    refine lv_iconst (v := 5) X.hx X.hb dX5_isWholeLetter_27 (by decide) ?_
    refine lv_icmp_ge (tgt := 48) X.hx X.hb dX5_isWholeLetter_28 (by decide) (fun c9 => ?_) (fun c9 => ?_)
    · have hf := it_p hf c9
      exact bX5_isWholeLetter_48 X     _  hf _ _ _ hH hS (lv_sub hl [0] rfl)
    · have hf := it_n hf c9
      refine lv_iload_n X.hx X.hb dX5_isWholeLetter_31 rfl (lv_at hl 0 rfl) ?_
      refine lv_bipush (v := 11) X.hx X.hb dX5_isWholeLetter_32 (by decide) ?_
      refine lv_icmp_lt (tgt := 48) X.hx X.hb dX5_isWholeLetter_34 (by decide) (fun c10 => ?_) (fun c10 => ?_)
      · have hf := it_p hf c10
        exact bX5_isWholeLetter_48 X     _  hf _ _ _ hH hS (lv_sub hl [0] rfl)
      · have hf := it_n hf c10
        refine lv_iload_n X.hx X.hb dX5_isWholeLetter_37 rfl (lv_at hl 0 rfl) ?_
        refine lv_bipush (v := 11) X.hx X.hb dX5_isWholeLetter_38 (by decide) ?_
        refine lv_idiv X.hx X.hb dX5_isWholeLetter_40 (by decide) ?_
        refine lv_istore_n (lv' := [(1, .int (x1 / (11 : Int32))), (2, .int x2)]) X.hx X.hb dX5_isWholeLetter_41 rfl hl (by decide) rfl (fun ls hl => ?_)
        refine lv_iinc (v := x2 + 1) (lv' := [(2, .int (x2 + 1)), (1, .int (x1 / (11 : Int32)))]) X.hx X.hb dX5_isWholeLetter_42 hl (k := 1) rfl rfl (by decide) rfl (fun ls hl => ?_)
        refine lv_goto (tgt := 26) X.hx X.hb dX5_isWholeLetter_45 (by decide) ?_
        exact ih _ _  hf _ _ _ hH hS (lv_sub hl [1, 0] rfl)
set_option maxRecDepth 20000 in
set_option maxHeartbeats 4000000 in
theorem kX5_isWholeLetter (l : Launch) {G : gG} {σ : Mem} {r : Int32} {x0 : Int32}  (hf : fX5_isWholeLetter x0 = some r) : CM l yX5_isWholeLetter cX5_isWholeLetter 3 (some .boolean) 1 22 G σ [.int x0] (some (.int r)) σ := by
  refine CM.of (by decide) (Nat.le_of_ble_eq_true rfl) (fun p e s m below meth c ls X hH hl => ?_)
  have X : gX p s m _ meth c yX5_isWholeLetter cX5_isWholeLetter 3 (some .boolean) RX5 G := X
  have hS : va_S (gAA G) s.heap s.heap [] := va_S.rf
  have hl : lv_has ls 3 [(0, .int x0)] := hl
  rw [fX5_isWholeLetter.eq_1] at hf
  refine lv_iload_n X.hx X.hb dX5_isWholeLetter_0 rfl (lv_at hl 0 rfl) ?_
  refine lv_bipush (v := 11) X.hx X.hb dX5_isWholeLetter_1 (by decide) ?_
  refine lv_icmp_lt (tgt := 20) X.hx X.hb dX5_isWholeLetter_3 (by decide) (fun c11 => ?_) (fun c11 => ?_)
  · have hf := it_p hf c11
    refine lv_iconst (v := 0) X.hx X.hb dX5_isWholeLetter_20 (by decide) ?_
    exact g_zret X hH hS rfl (so1 hf) (by decide) dX5_isWholeLetter_21
  · have hf := it_n hf c11
    refine lv_iload_n X.hx X.hb dX5_isWholeLetter_6 rfl (lv_at hl 0 rfl) ?_
    refine lv_ldcw X.hx X.hb X.hown (X.w kcX5_306) dX5_isWholeLetter_7 ?_
    refine lv_icmp_gt (tgt := 20) X.hx X.hb dX5_isWholeLetter_10 (by decide) (fun c12 => ?_) (fun c12 => ?_)
    · have hf := it_p hf c12
      refine lv_iconst (v := 0) X.hx X.hb dX5_isWholeLetter_20 (by decide) ?_
      exact g_zret X hH hS rfl (so1 hf) (by decide) dX5_isWholeLetter_21
    · have hf := it_n hf c12
      refine lv_iload_n X.hx X.hb dX5_isWholeLetter_13 rfl (lv_at hl 0 rfl) ?_
      obtain ⟨r13, hr, hf⟩ := bd_e hf
      refine g_callSI (As := [.int x0]) (rest := []) X (kX5_lostIn l  hr) ⟨cdX5_lostIn, mlX5_223, stX5_lostIn, iniX5⟩ hsX5_lostIn ⟨Nat.le_of_ble_eq_true rfl, Nat.le_of_ble_eq_true rfl⟩ hH hS hl rfl rfl (Nat.le_of_ble_eq_true rfl) ⟨Nat.le_refl 0, Nat.le_refl 0⟩ dX5_isWholeLetter_14 (fun H locs hH hS => ?_)
      refine lv_if_eq (tgt := 22) X.hx X.hb dX5_isWholeLetter_17 (by decide) (fun c14 => ?_) (fun c14 => ?_)
      · have hf := it_p hf c14
        refine lv_iload_n X.hx X.hb dX5_isWholeLetter_22 rfl (lv_at hl 0 rfl) ?_
        refine lv_istore_n (lv' := [(1, .int x0), (0, .int x0)]) X.hx X.hb dX5_isWholeLetter_23 rfl hl (by decide) rfl (fun ls hl => ?_)
        refine lv_iconst (v := 0) X.hx X.hb dX5_isWholeLetter_24 (by decide) ?_
        refine lv_istore_n (lv' := [(2, .int (0 : Int32)), (1, .int x0), (0, .int x0)]) X.hx X.hb dX5_isWholeLetter_25 rfl hl (by decide) rfl (fun ls hl => ?_)
        exact bX5_isWholeLetter_26 X    _ _ _  hf _ _ _ hH hS (lv_sub hl [1, 0] rfl)
      · have hf := it_n hf c14
        refine lv_iconst (v := 0) X.hx X.hb dX5_isWholeLetter_20 (by decide) ?_
        exact g_zret X hH hS rfl (so1 hf) (by decide) dX5_isWholeLetter_21
set_option maxRecDepth 20000 in
set_option maxHeartbeats 4000000 in
theorem bX5_whose_13 {p : Program} {l : Launch} {e : Env} {s : State} {m : MethodId} {args : Array Value} {below : List Frame} {meth : Method} {c : Code} {G : gG} (X : gX p s m args meth c yX5_whose cX5_whose 4 (some .int) RX5 G) {o : Nat} (ho : gsh G o = some 5)  {σ : Mem} {r : Int32} : (∀ (n : Nat) (x1 : Int32) (x2 : Int32) (x3 : Int32), fX5_whose_13 σ o n x1 x2 x3 = some r → ∀ (H : Heap) (locs : List Loc) (ls : Array Slot), gH G σ H → va_S (gAA G) s.heap H locs → lv_has ls 4 [(0, .ref (gad G o 0)), (1, .int x1), (2, .int x2), (3, .int x3)] → WB p l e 2 47 s m args below meth c G (some (.int r)) σ H locs (F0 m 13 ls [])) := by
  intro n
  induction n with
  | zero => intro x1 x2 x3 hf H locs ls hH hS hl; exact nomatch (show (none : Option Int32) = some _ from hf)
  | succ n ih =>
    intro x1 x2 x3 hf H locs ls hH hS hl
    rw [fX5_whose_13.eq_2] at hf
    refine lv_iload_n X.hx X.hb dX5_whose_13 rfl (lv_at hl 3 rfl) ?_
    refine lv_aload_n X.hx X.hb dX5_whose_14 rfl (lv_at hl 0 rfl) ?_
    refine gfX5_19 X hH ho dX5_whose_15 ?_
    have h9 : gsh G (mP σ o 1) = some 1 := hH.2.2.1 _ _ _ _ ho rfl
    refine gfX5_245 X hH h9 dX5_whose_18 ?_
    refine lv_icmp_ge (tgt := 55) X.hx X.hb dX5_whose_21 (by decide) (fun c10 => ?_) (fun c10 => ?_)
    · have hf := it_p hf c10
      refine lv_iload_n X.hx X.hb dX5_whose_55 rfl (lv_at hl 2 rfl) ?_
      exact g_iret X hH hS rfl (so1 hf) dX5_whose_56
    · have hf := it_n hf c10
      refine lv_aload_n X.hx X.hb dX5_whose_24 rfl (lv_at hl 0 rfl) ?_
      refine gfX5_19 X hH ho dX5_whose_25 ?_
      have h11 : gsh G (mP σ o 1) = some 1 := hH.2.2.1 _ _ _ _ ho rfl
      refine lv_iload_n X.hx X.hb dX5_whose_28 rfl (lv_at hl 1 rfl) ?_
      refine lv_iload_n X.hx X.hb dX5_whose_29 rfl (lv_at hl 3 rfl) ?_
      obtain ⟨r12, hr, hf⟩ := bd_e hf
      refine g_callVI (As := [.int x1, .int x3]) (rest := []) X (kX1_smoked l h11 hr) (C := RX1) (T := TX1) (N := 11) (ci := 1) rfl h11 ⟨cdX1_smoked, mlX5_220, imX1_smoked, seX1_smoked, iniX1⟩ hvX1_smoked ⟨Nat.le_of_ble_eq_true rfl, Nat.le_of_ble_eq_true rfl⟩ hH hS hl rfl rfl (Nat.le_of_ble_eq_true rfl) ⟨Nat.le_refl 0, Nat.le_refl 0⟩ dX5_whose_30 (fun H locs hH hS => ?_)
      refine lv_aload_n X.hx X.hb dX5_whose_33 rfl (lv_at hl 0 rfl) ?_
      refine gfX5_29 X hH ho dX5_whose_34 ?_
      have h13 : gsh G (mP σ o 3) = some 2 := hH.2.2.1 _ _ _ _ ho rfl
      refine gfX5_214 X hH h13 dX5_whose_37 ?_
      refine lv_icmp_ne (tgt := 49) X.hx X.hb dX5_whose_40 (by decide) (fun c14 => ?_) (fun c14 => ?_)
      · have hf := it_n hf c14
        refine lv_iinc (v := x3 + 1) (lv' := [(3, .int (x3 + 1)), (0, .ref (gad G o 0)), (1, .int x1), (2, .int x2)]) X.hx X.hb dX5_whose_49 hl (k := 3) rfl rfl (by decide) rfl (fun ls hl => ?_)
        refine lv_goto (tgt := 13) X.hx X.hb dX5_whose_52 (by decide) ?_
        exact ih _ _ _  hf _ _ _ hH hS (lv_sub hl [1, 2, 3, 0] rfl)
      · have hf := it_p hf c14
        refine lv_iload_n X.hx X.hb dX5_whose_43 rfl (lv_at hl 2 rfl) ?_
        refine lv_iconst (v := 1) X.hx X.hb dX5_whose_44 (by decide) ?_
        refine lv_iload_n X.hx X.hb dX5_whose_45 rfl (lv_at hl 3 rfl) ?_
        refine lv_ishl X.hx X.hb dX5_whose_46 ?_
        refine lv_ior X.hx X.hb dX5_whose_47 ?_
        refine lv_istore_n (lv' := [(2, .int (x2 ||| ((1 : Int32) <<< (x3 &&& 31)))), (0, .ref (gad G o 0)), (1, .int x1), (3, .int x3)]) X.hx X.hb dX5_whose_48 rfl hl (by decide) rfl (fun ls hl => ?_)
        refine lv_iinc (v := x3 + 1) (lv' := [(3, .int (x3 + 1)), (2, .int (x2 ||| ((1 : Int32) <<< (x3 &&& 31)))), (0, .ref (gad G o 0)), (1, .int x1)]) X.hx X.hb dX5_whose_49 hl (k := 3) rfl rfl (by decide) rfl (fun ls hl => ?_)
        refine lv_goto (tgt := 13) X.hx X.hb dX5_whose_52 (by decide) ?_
        exact ih _ _ _  hf _ _ _ hH hS (lv_sub hl [2, 3, 1, 0] rfl)
set_option maxRecDepth 20000 in
set_option maxHeartbeats 4000000 in
theorem kX5_whose (l : Launch) {G : gG} {σ : Mem} {r : Int32} {o : Nat} {x1 : Int32} (ho : gsh G o = some 5)  (hf : fX5_whose σ o x1 = some r) : CM l yX5_whose cX5_whose 4 (some .int) 2 47 G σ [.ref (gad G o 0), .int x1] (some (.int r)) σ := by
  refine CM.of (by decide) (Nat.le_of_ble_eq_true rfl) (fun p e s m below meth c ls X hH hl => ?_)
  have X : gX p s m _ meth c yX5_whose cX5_whose 4 (some .int) RX5 G := X
  have hS : va_S (gAA G) s.heap s.heap [] := va_S.rf
  have hl : lv_has ls 4 [(0, .ref (gad G o 0)), (1, .int x1)] := hl
  rw [fX5_whose.eq_1] at hf
  refine lv_iload_n X.hx X.hb dX5_whose_0 rfl (lv_at hl 1 rfl) ?_
  obtain ⟨r15, hr, hf⟩ := bd_e hf
  refine g_callSI (As := [.int x1]) (rest := []) X (kX5_isWholeLetter l  hr) ⟨cdX5_isWholeLetter, mlX5_242, stX5_isWholeLetter, iniX5⟩ hsX5_isWholeLetter ⟨Nat.le_of_ble_eq_true rfl, Nat.le_of_ble_eq_true rfl⟩ hH hS hl rfl rfl (Nat.le_of_ble_eq_true rfl) ⟨Nat.le_refl 0, Nat.le_refl 0⟩ dX5_whose_1 (fun H locs hH hS => ?_)
  refine lv_if_ne (tgt := 9) X.hx X.hb dX5_whose_4 (by decide) (fun c16 => ?_) (fun c16 => ?_)
  · have hf := it_n hf c16
    refine lv_iconst (v := 0) X.hx X.hb dX5_whose_9 (by decide) ?_
    refine lv_istore_n (lv' := [(2, .int (0 : Int32)), (0, .ref (gad G o 0)), (1, .int x1)]) X.hx X.hb dX5_whose_10 rfl hl (by decide) rfl (fun ls hl => ?_)
    refine lv_iconst (v := 0) X.hx X.hb dX5_whose_11 (by decide) ?_
    refine lv_istore_n (lv' := [(3, .int (0 : Int32)), (2, .int (0 : Int32)), (0, .ref (gad G o 0)), (1, .int x1)]) X.hx X.hb dX5_whose_12 rfl hl (by decide) rfl (fun ls hl => ?_)
    exact bX5_whose_13 X  ho  _ _ _ _  hf _ _ _ hH hS (lv_sub hl [2, 3, 1, 0] rfl)
  · have hf := it_p hf c16
    refine lv_iconst (v := -1) X.hx X.hb dX5_whose_7 (by decide) ?_
    exact g_iret X hH hS rfl (so1 hf) dX5_whose_8
set_option maxRecDepth 20000 in
set_option maxHeartbeats 4000000 in
theorem bX5_standsAhead_2 {p : Program} {l : Launch} {e : Env} {s : State} {m : MethodId} {args : Array Value} {below : List Frame} {meth : Method} {c : Code} {G : gG} (X : gX p s m args meth c yX5_standsAhead cX5_standsAhead 4 (some .boolean) RX5 G)  {σ : Mem} {r : Int32} : (∀ (n : Nat) (a0 : Nat) (b0 : Nat) (n0 : Nat) (x1 : Int32) (x2 : Int32) (x3 : Int32), gvA G a0 b0 4 n0 → fX5_standsAhead_2 σ n a0 b0 n0 x1 x2 x3 = some r → ∀ (H : Heap) (locs : List Loc) (ls : Array Slot), gH G σ H → va_S (gAA G) s.heap H locs → lv_has ls 4 [(0, .ref (gad G a0 (b0 + 1))), (1, .int x1), (2, .int x2), (3, .int x3)] → WB p l e 0 0 s m args below meth c G (some (.int r)) σ H locs (F0 m 2 ls [])) := by
  intro n
  induction n with
  | zero => intro a0 b0 n0 x1 x2 x3 ha0 hf H locs ls hH hS hl; exact nomatch (show (none : Option Int32) = some _ from hf)
  | succ n ih =>
    intro a0 b0 n0 x1 x2 x3 ha0 hf H locs ls hH hS hl
    rw [fX5_standsAhead_2.eq_2] at hf
    refine lv_iload_n X.hx X.hb dX5_standsAhead_2 rfl (lv_at hl 3 rfl) ?_
    refine lv_iload_n X.hx X.hb dX5_standsAhead_3 rfl (lv_at hl 1 rfl) ?_
    refine lv_icmp_ge (tgt := 28) X.hx X.hb dX5_standsAhead_4 (by decide) (fun c4 => ?_) (fun c4 => ?_)
    · have hf := it_p hf c4
      refine lv_iconst (v := 0) X.hx X.hb dX5_standsAhead_28 (by decide) ?_
      exact g_zret X hH hS rfl (so1 hf) (by decide) dX5_standsAhead_29
    · have hf := it_n hf c4
      refine lv_iload_n X.hx X.hb dX5_standsAhead_7 rfl (lv_at hl 3 rfl) ?_
      refine lv_aload_n X.hx X.hb dX5_standsAhead_8 rfl (lv_at hl 0 rfl) ?_
      refine g_alen X hH ha0 dX5_standsAhead_9 ?_
      refine lv_icmp_ge (tgt := 28) X.hx X.hb dX5_standsAhead_10 (by decide) (fun c5 => ?_) (fun c5 => ?_)
      · have hf := it_p hf c5
        refine lv_iconst (v := 0) X.hx X.hb dX5_standsAhead_28 (by decide) ?_
        exact g_zret X hH hS rfl (so1 hf) (by decide) dX5_standsAhead_29
      · have hf := it_n hf c5
        refine lv_aload_n X.hx X.hb dX5_standsAhead_13 rfl (lv_at hl 0 rfl) ?_
        refine lv_iload_n X.hx X.hb dX5_standsAhead_14 rfl (lv_at hl 3 rfl) ?_
        obtain ⟨hg, hf⟩ := gd_e hf
        refine g_iald X hH ha0 hg dX5_standsAhead_15 ?_
        refine lv_iload_n X.hx X.hb dX5_standsAhead_16 rfl (lv_at hl 2 rfl) ?_
        refine lv_icmp_ne (tgt := 22) X.hx X.hb dX5_standsAhead_17 (by decide) (fun c6 => ?_) (fun c6 => ?_)
        · have hf := it_n hf c6
          refine lv_iinc (v := x3 + 1) (lv' := [(3, .int (x3 + 1)), (0, .ref (gad G a0 (b0 + 1))), (1, .int x1), (2, .int x2)]) X.hx X.hb dX5_standsAhead_22 hl (k := 3) rfl rfl (by decide) rfl (fun ls hl => ?_)
          refine lv_goto (tgt := 2) X.hx X.hb dX5_standsAhead_25 (by decide) ?_
          exact ih _ _ _ _ _ _ ha0 hf _ _ _ hH hS (lv_sub hl [1, 2, 3, 0] rfl)
        · have hf := it_p hf c6
          refine lv_iconst (v := 1) X.hx X.hb dX5_standsAhead_20 (by decide) ?_
          exact g_zret X hH hS rfl (so1 hf) (by decide) dX5_standsAhead_21
set_option maxRecDepth 20000 in
set_option maxHeartbeats 4000000 in
theorem kX5_standsAhead (l : Launch) {G : gG} {σ : Mem} {r : Int32} {a0 b0 n0 : Nat} {x1 : Int32} {x2 : Int32} (ha0 : gvA G a0 b0 4 n0) (hf : fX5_standsAhead σ a0 b0 n0 x1 x2 = some r) : CM l yX5_standsAhead cX5_standsAhead 4 (some .boolean) 0 0 G σ [.ref (gad G a0 (b0 + 1)), .int x1, .int x2] (some (.int r)) σ := by
  refine CM.of (by decide) (Nat.le_of_ble_eq_true rfl) (fun p e s m below meth c ls X hH hl => ?_)
  have X : gX p s m _ meth c yX5_standsAhead cX5_standsAhead 4 (some .boolean) RX5 G := X
  have hS : va_S (gAA G) s.heap s.heap [] := va_S.rf
  have hl : lv_has ls 4 [(0, .ref (gad G a0 (b0 + 1))), (1, .int x1), (2, .int x2)] := hl
  rw [fX5_standsAhead.eq_1] at hf
  refine lv_iconst (v := 0) X.hx X.hb dX5_standsAhead_0 (by decide) ?_
  refine lv_istore_n (lv' := [(3, .int (0 : Int32)), (0, .ref (gad G a0 (b0 + 1))), (1, .int x1), (2, .int x2)]) X.hx X.hb dX5_standsAhead_1 rfl hl (by decide) rfl (fun ls hl => ?_)
  exact bX5_standsAhead_2 X    _ _ _ _ _ _ _ ha0 hf _ _ _ hH hS (lv_sub hl [1, 2, 3, 0] rfl)
set_option maxRecDepth 20000 in
set_option maxHeartbeats 4000000 in
theorem bX5_canMake_28 {p : Program} {l : Launch} {e : Env} {s : State} {m : MethodId} {args : Array Value} {below : List Frame} {meth : Method} {c : Code} {G : gG} (X : gX p s m args meth c yX5_canMake cX5_canMake 7 (some .boolean) RX5 G) {fr lo fr2 lo2 : Nat} {fr_ : Mem → Nat → Nat → Nat → Nat → Int32 → Int32 → Int32 → Int32 → Option (Int32 × Mem)} (hR1 : 2 ≤ fr) (hR2 : 47 ≤ lo) (hR3 : fr2 + 1 ≤ fr) (hR4 : 8 + (7 + 11) + lo2 ≤ lo) (hrec : ∀ (σ : Mem) (q0 : Nat) (a1 b1 n1 : Nat) (x2 : Int32) (x3 : Int32) (x4 : Int32) (x5 : Int32) (r : Int32) (σ' : Mem) , gsh G q0 = some 1 → gvA G a1 b1 4 n1 → fr_ σ q0 a1 b1 n1 x2 x3 x4 x5 = some (r, σ') → CM l yX5_canMake cX5_canMake 7 (some .boolean) fr2 lo2 G σ [.ref (gad G q0 0), .ref (gad G a1 (b1 + 1)), .int x2, .int x3, .int x4, .int x5] (some (.int r)) σ')  {r : Int32} {σ' : Mem} : (∀ (n : Nat) (σ : Mem) (q0 : Nat) (a1 : Nat) (b1 : Nat) (n1 : Nat) (x2 : Int32) (x3 : Int32) (x4 : Int32) (x5 : Int32) (x6 : Int32), gsh G q0 = some 1 → gvA G a1 b1 4 n1 → fX5_canMake_28 fr_ n σ q0 a1 b1 n1 x2 x3 x4 x5 x6 = some (r, σ') → ∀ (H : Heap) (locs : List Loc) (ls : Array Slot), gH G σ H → va_S (gAA G) s.heap H locs → lv_has ls 7 [(0, .ref (gad G q0 0)), (1, .ref (gad G a1 (b1 + 1))), (2, .int x2), (3, .int x3), (4, .int x4), (5, .int x5), (6, .int x6)] → WB p l e fr lo s m args below meth c G (some (.int r)) σ' H locs (F0 m 28 ls [])) := by
  intro n
  induction n with
  | zero => intro σ q0 a1 b1 n1 x2 x3 x4 x5 x6 hq0 ha1 hf H locs ls hH hS hl; exact nomatch (show (none : Option (Int32 × Mem)) = some _ from hf)
  | succ n ih =>
    intro σ q0 a1 b1 n1 x2 x3 x4 x5 x6 hq0 ha1 hf H locs ls hH hS hl
    rw [fX5_canMake_28.eq_2] at hf
    refine lv_iload X.hx X.hb dX5_canMake_28 (lv_at hl 6 rfl) ?_
    refine lv_aload_n X.hx X.hb dX5_canMake_30 rfl (lv_at hl 0 rfl) ?_
    refine gfX5_245 X hH hq0 dX5_canMake_31 ?_
    refine lv_icmp_ge (tgt := 87) X.hx X.hb dX5_canMake_34 (by decide) (fun c12 => ?_) (fun c12 => ?_)
    · have hf := it_p hf c12
      refine lv_iconst (v := 0) X.hx X.hb dX5_canMake_87 (by decide) ?_
      have e := so2 hf
      rw [e.2] at hH
      exact g_zret X hH hS rfl e.1 (by decide) dX5_canMake_88
    · have hf := it_n hf c12
      refine lv_aload_n X.hx X.hb dX5_canMake_37 rfl (lv_at hl 1 rfl) ?_
      refine lv_iload X.hx X.hb dX5_canMake_38 (lv_at hl 4 rfl) ?_
      refine lv_iload X.hx X.hb dX5_canMake_40 (lv_at hl 6 rfl) ?_
      obtain ⟨r13, hr, hf⟩ := bd_e hf
      refine g_callSI (As := [.ref (gad G a1 (b1 + 1)), .int x4, .int x6]) (rest := []) X (kX5_standsAhead l ha1 hr) ⟨cdX5_standsAhead, mlX5_292, stX5_standsAhead, iniX5⟩ hsX5_standsAhead ⟨by show _ ≤ fr; omega, by show _ ≤ lo; omega⟩ hH hS hl rfl rfl (Nat.le_of_ble_eq_true rfl) ⟨Nat.le_refl 0, Nat.le_refl 0⟩ dX5_canMake_42 (fun H locs hH hS => ?_)
      refine lv_if_eq (tgt := 51) X.hx X.hb dX5_canMake_45 (by decide) (fun c14 => ?_) (fun c14 => ?_)
      · have hf := it_p hf c14
        refine lv_aload_n X.hx X.hb dX5_canMake_51 rfl (lv_at hl 1 rfl) ?_
        refine lv_iload X.hx X.hb dX5_canMake_52 (lv_at hl 4 rfl) ?_
        refine lv_iload X.hx X.hb dX5_canMake_54 (lv_at hl 6 rfl) ?_
        obtain ⟨hg, hf⟩ := gd_e hf
        refine g_iast X hH hS ha1 hg dX5_canMake_56 (fun H locs hH hS => ?_)
        obtain ⟨σ15, he, hf⟩ := stp_e hf
        rw [← he] at hH
        clear he
        refine lv_aload_n X.hx X.hb dX5_canMake_57 rfl (lv_at hl 0 rfl) ?_
        refine lv_aload_n X.hx X.hb dX5_canMake_58 rfl (lv_at hl 1 rfl) ?_
        refine lv_aload_n X.hx X.hb dX5_canMake_59 rfl (lv_at hl 0 rfl) ?_
        refine lv_iload_n X.hx X.hb dX5_canMake_60 rfl (lv_at hl 2 rfl) ?_
        refine lv_iload X.hx X.hb dX5_canMake_61 (lv_at hl 6 rfl) ?_
        obtain ⟨r16, hr, hf⟩ := bd_e hf
        refine g_callVI (As := [.int x2, .int x6]) (rest := [.ref (gad G a1 (b1 + 1)), .ref (gad G q0 0)]) X (kX1_smoked l hq0 hr) (C := RX1) (T := TX1) (N := 11) (ci := 1) rfl hq0 ⟨cdX1_smoked, mlX5_220, imX1_smoked, seX1_smoked, iniX1⟩ hvX1_smoked ⟨by show _ ≤ fr; omega, by show _ ≤ lo; omega⟩ hH hS hl rfl rfl (Nat.le_of_ble_eq_true rfl) ⟨Nat.le_refl 0, Nat.le_refl 0⟩ dX5_canMake_63 (fun H locs hH hS => ?_)
        refine lv_iload_n X.hx X.hb dX5_canMake_66 rfl (lv_at hl 3 rfl) ?_
        refine lv_iload X.hx X.hb dX5_canMake_67 (lv_at hl 4 rfl) ?_
        refine lv_iconst (v := 1) X.hx X.hb dX5_canMake_69 (by decide) ?_
        refine lv_iadd X.hx X.hb dX5_canMake_70 ?_
        refine lv_iload X.hx X.hb dX5_canMake_71 (lv_at hl 5 rfl) ?_
        obtain ⟨r17, σ18, hr, hf⟩ := bd2_e hf
        refine g_callSI (As := [.ref (gad G q0 0), .ref (gad G a1 (b1 + 1)), .int r16, .int x3, .int (x4 + (1 : Int32)), .int x5]) (rest := []) X (hrec _ _ _ _ _ _ _ _ _ _ _ hq0 ha1 hr) ⟨cdX5_canMake, mlX5_288, stX5_canMake, iniX5⟩ hsX5_canMake ⟨hR3, hR4⟩ hH hS hl rfl rfl (Nat.le_of_ble_eq_true rfl) ⟨Nat.le_refl 0, Nat.le_refl 0⟩ dX5_canMake_73 (fun H locs hH hS => ?_)
        refine lv_if_eq (tgt := 81) X.hx X.hb dX5_canMake_76 (by decide) (fun c19 => ?_) (fun c19 => ?_)
        · have hf := it_p hf c19
          refine lv_iinc (v := x6 + 1) (lv' := [(6, .int (x6 + 1)), (0, .ref (gad G q0 0)), (1, .ref (gad G a1 (b1 + 1))), (2, .int x2), (3, .int x3), (4, .int x4), (5, .int x5)]) X.hx X.hb dX5_canMake_81 hl (k := 6) rfl rfl (by decide) rfl (fun ls hl => ?_)
          refine lv_goto (tgt := 28) X.hx X.hb dX5_canMake_84 (by decide) ?_
          exact ih _ _ _ _ _ _ _ _ _ _ hq0 ha1 hf _ _ _ hH hS (lv_sub hl [1, 2, 3, 4, 5, 6, 0] rfl)
        · have hf := it_n hf c19
          refine lv_iconst (v := 1) X.hx X.hb dX5_canMake_79 (by decide) ?_
          have e := so2 hf
          rw [e.2] at hH
          exact g_zret X hH hS rfl e.1 (by decide) dX5_canMake_80
      · have hf := it_n hf c14
        refine lv_goto (tgt := 81) X.hx X.hb dX5_canMake_48 (by decide) ?_
        refine lv_iinc (v := x6 + 1) (lv' := [(6, .int (x6 + 1)), (0, .ref (gad G q0 0)), (1, .ref (gad G a1 (b1 + 1))), (2, .int x2), (3, .int x3), (4, .int x4), (5, .int x5)]) X.hx X.hb dX5_canMake_81 hl (k := 6) rfl rfl (by decide) rfl (fun ls hl => ?_)
        refine lv_goto (tgt := 28) X.hx X.hb dX5_canMake_84 (by decide) ?_
        exact ih _ _ _ _ _ _ _ _ _ _ hq0 ha1 hf _ _ _ hH hS (lv_sub hl [1, 2, 3, 4, 5, 6, 0] rfl)
set_option maxRecDepth 20000 in
set_option maxHeartbeats 4000000 in
theorem bX5_canMake_14 {p : Program} {l : Launch} {e : Env} {s : State} {m : MethodId} {args : Array Value} {below : List Frame} {meth : Method} {c : Code} {G : gG} (X : gX p s m args meth c yX5_canMake cX5_canMake 7 (some .boolean) RX5 G) {fr lo fr2 lo2 : Nat} {fr_ : Mem → Nat → Nat → Nat → Nat → Int32 → Int32 → Int32 → Int32 → Option (Int32 × Mem)} (hR1 : 2 ≤ fr) (hR2 : 47 ≤ lo) (hR3 : fr2 + 1 ≤ fr) (hR4 : 8 + (7 + 11) + lo2 ≤ lo) (hrec : ∀ (σ : Mem) (q0 : Nat) (a1 b1 n1 : Nat) (x2 : Int32) (x3 : Int32) (x4 : Int32) (x5 : Int32) (r : Int32) (σ' : Mem) , gsh G q0 = some 1 → gvA G a1 b1 4 n1 → fr_ σ q0 a1 b1 n1 x2 x3 x4 x5 = some (r, σ') → CM l yX5_canMake cX5_canMake 7 (some .boolean) fr2 lo2 G σ [.ref (gad G q0 0), .ref (gad G a1 (b1 + 1)), .int x2, .int x3, .int x4, .int x5] (some (.int r)) σ')  {r : Int32} {σ' : Mem} : (∀ (σ : Mem) (x2 : Int32) (x3 : Int32), fX5_canMake_14 fr_ σ x2 x3 = some (r, σ') → ∀ (H : Heap) (locs : List Loc) (ls : Array Slot), gH G σ H → va_S (gAA G) s.heap H locs → lv_has ls 7 [(2, .int x2), (3, .int x3)] → WB p l e fr lo s m args below meth c G (some (.int r)) σ' H locs (F0 m 14 ls [])) := by
  intro σ x2 x3 hf H locs ls hH hS hl
  rw [fX5_canMake_14.eq_1] at hf
  refine lv_iload_n X.hx X.hb dX5_canMake_14 rfl (lv_at hl 0 rfl) ?_
  refine lv_iload_n X.hx X.hb dX5_canMake_15 rfl (lv_at hl 1 rfl) ?_
  refine lv_icmp_ne (tgt := 23) X.hx X.hb dX5_canMake_16 (by decide) (fun c20 => ?_) (fun c20 => ?_)
  · have hf := it_n hf c20
    refine lv_iconst (v := 0) X.hx X.hb dX5_canMake_23 (by decide) ?_
    have e := so2 hf
    rw [e.2] at hH
    exact g_zret X hH hS rfl e.1 (by decide) dX5_canMake_24
  · have hf := it_p hf c20
    refine lv_iconst (v := 1) X.hx X.hb dX5_canMake_19 (by decide) ?_
    refine lv_goto (tgt := 24) X.hx X.hb dX5_canMake_20 (by decide) ?_
    have e := so2 hf
    rw [e.2] at hH
    exact g_zret X hH hS rfl e.1 (by decide) dX5_canMake_24
set_option maxRecDepth 20000 in
set_option maxHeartbeats 4000000 in
theorem kX5_canMake_B (l : Launch) {G : gG} {σ : Mem} {fr lo fr2 lo2 : Nat} {fr_ : Mem → Nat → Nat → Nat → Nat → Int32 → Int32 → Int32 → Int32 → Option (Int32 × Mem)} (hR1 : 2 ≤ fr) (hR2 : 47 ≤ lo) (hR3 : fr2 + 1 ≤ fr) (hR4 : 8 + (7 + 11) + lo2 ≤ lo) (hrec : ∀ (σ : Mem) (q0 : Nat) (a1 b1 n1 : Nat) (x2 : Int32) (x3 : Int32) (x4 : Int32) (x5 : Int32) (r : Int32) (σ' : Mem) , gsh G q0 = some 1 → gvA G a1 b1 4 n1 → fr_ σ q0 a1 b1 n1 x2 x3 x4 x5 = some (r, σ') → CM l yX5_canMake cX5_canMake 7 (some .boolean) fr2 lo2 G σ [.ref (gad G q0 0), .ref (gad G a1 (b1 + 1)), .int x2, .int x3, .int x4, .int x5] (some (.int r)) σ') {r : Int32} {σ' : Mem} {q0 : Nat} {a1 b1 n1 : Nat} {x2 : Int32} {x3 : Int32} {x4 : Int32} {x5 : Int32} (hq0 : gsh G q0 = some 1) (ha1 : gvA G a1 b1 4 n1) (hf : fX5_canMake_B fr_ σ q0 a1 b1 n1 x2 x3 x4 x5 = some (r, σ')) : CM l yX5_canMake cX5_canMake 7 (some .boolean) fr lo G σ [.ref (gad G q0 0), .ref (gad G a1 (b1 + 1)), .int x2, .int x3, .int x4, .int x5] (some (.int r)) σ' := by
  refine CM.of (by decide) (Nat.le_of_ble_eq_true rfl) (fun p e s m below meth c ls X hH hl => ?_)
  have X : gX p s m _ meth c yX5_canMake cX5_canMake 7 (some .boolean) RX5 G := X
  have hS : va_S (gAA G) s.heap s.heap [] := va_S.rf
  have hl : lv_has ls 7 [(0, .ref (gad G q0 0)), (1, .ref (gad G a1 (b1 + 1))), (2, .int x2), (3, .int x3), (4, .int x4), (5, .int x5)] := hl
  rw [fX5_canMake_B.eq_1] at hf
  refine lv_iload X.hx X.hb dX5_canMake_0 (lv_at hl 4 rfl) ?_
  refine lv_iload X.hx X.hb dX5_canMake_2 (lv_at hl 5 rfl) ?_
  refine lv_icmp_ge (tgt := 14) X.hx X.hb dX5_canMake_4 (by decide) (fun c21 => ?_) (fun c21 => ?_)
  · have hf := it_p hf c21
    exact bX5_canMake_14 X hR1 hR2 hR3 hR4 hrec    _ _ _  hf _ _ _ hH hS (lv_sub hl [2, 3] rfl)
  · have hf := it_n hf c21
    refine lv_iload X.hx X.hb dX5_canMake_7 (lv_at hl 4 rfl) ?_
    refine lv_aload_n X.hx X.hb dX5_canMake_9 rfl (lv_at hl 1 rfl) ?_
    refine g_alen X hH ha1 dX5_canMake_10 ?_
    refine lv_icmp_lt (tgt := 25) X.hx X.hb dX5_canMake_11 (by decide) (fun c22 => ?_) (fun c22 => ?_)
    · have hf := it_p hf c22
      refine lv_iconst (v := 0) X.hx X.hb dX5_canMake_25 (by decide) ?_
      refine lv_istore (lv' := [(6, .int (0 : Int32)), (0, .ref (gad G q0 0)), (1, .ref (gad G a1 (b1 + 1))), (2, .int x2), (3, .int x3), (4, .int x4), (5, .int x5)]) X.hx X.hb dX5_canMake_26 hl (by decide) rfl (fun ls hl => ?_)
      exact bX5_canMake_28 X hR1 hR2 hR3 hR4 hrec   _ _ _ _ _ _ _ _ _ _ _ hq0 ha1 hf _ _ _ hH hS (lv_sub hl [1, 2, 3, 4, 5, 6, 0] rfl)
    · have hf := it_n hf c22
      exact bX5_canMake_14 X hR1 hR2 hR3 hR4 hrec    _ _ _  hf _ _ _ hH hS (lv_sub hl [2, 3] rfl)
set_option maxRecDepth 20000 in
set_option maxHeartbeats 4000000 in
theorem kX5_canMake (l : Launch) {G : gG} : ∀ (d : Nat) {σ : Mem} {r : Int32} {σ' : Mem} {q0 : Nat} {a1 b1 n1 : Nat} {x2 : Int32} {x3 : Int32} {x4 : Int32} {x5 : Int32}, (gsh G q0 = some 1) → (gvA G a1 b1 4 n1) → fX5_canMake d σ q0 a1 b1 n1 x2 x3 x4 x5 = some (r, σ') → CM l yX5_canMake cX5_canMake 7 (some .boolean) (2 + d) (47 + 26 * d) G σ [.ref (gad G q0 0), .ref (gad G a1 (b1 + 1)), .int x2, .int x3, .int x4, .int x5] (some (.int r)) σ' := by
  intro d
  induction d with
  | zero => intros; exact nomatch (show (none : Option (Int32 × Mem)) = some _ by assumption)
  | succ d ih =>
    intros
    rename_i hf
    exact kX5_canMake_B l (by omega) (by omega) (fr2 := 2 + d) (lo2 := 47 + 26 * d) (by omega) (by omega) (by intros; rename_i h; exact ih (by assumption) (by assumption) h) (by assumption) (by assumption) hf
set_option maxRecDepth 20000 in
set_option maxHeartbeats 4000000 in
theorem bX5_fewestClerks_2 {p : Program} {l : Launch} {e : Env} {s : State} {m : MethodId} {args : Array Value} {below : List Frame} {meth : Method} {c : Code} {G : gG} (X : gX p s m args meth c yX5_fewestClerks cX5_fewestClerks 3 (some .int) RX5 G) {o : Nat} (ho : gsh G o = some 5)  {r : Int32} {σ' : Mem} : (∀ (n : Nat) (σ : Mem) (x1 : Int32) (x2 : Int32), fX5_fewestClerks_2 o n σ x1 x2 = some (r, σ') → ∀ (H : Heap) (locs : List Loc) (ls : Array Slot), gH G σ H → va_S (gAA G) s.heap H locs → lv_has ls 3 [(0, .ref (gad G o 0)), (1, .int x1), (2, .int x2)] → WB p l e 13 333 s m args below meth c G (some (.int r)) σ' H locs (F0 m 2 ls [])) := by
  intro n
  induction n with
  | zero => intro σ x1 x2 hf H locs ls hH hS hl; exact nomatch (show (none : Option (Int32 × Mem)) = some _ from hf)
  | succ n ih =>
    intro σ x1 x2 hf H locs ls hH hS hl
    rw [fX5_fewestClerks_2.eq_2] at hf
    refine lv_iload_n X.hx X.hb dX5_fewestClerks_2 rfl (lv_at hl 2 rfl) ?_
    refine lv_aload_n X.hx X.hb dX5_fewestClerks_3 rfl (lv_at hl 0 rfl) ?_
    refine gfX5_19 X hH ho dX5_fewestClerks_4 ?_
    have h8 : gsh G (mP σ o 1) = some 1 := hH.2.2.1 _ _ _ _ ho rfl
    refine gfX5_245 X hH h8 dX5_fewestClerks_7 ?_
    refine lv_icmp_gt (tgt := 45) X.hx X.hb dX5_fewestClerks_10 (by decide) (fun c9 => ?_) (fun c9 => ?_)
    · have hf := it_p hf c9
      refine lv_bipush (v := -9) X.hx X.hb dX5_fewestClerks_45 (by decide) ?_
      have e := so2 hf
      rw [e.2] at hH
      exact g_iret X hH hS rfl e.1 dX5_fewestClerks_47
    · have hf := it_n hf c9
      refine lv_aload_n X.hx X.hb dX5_fewestClerks_13 rfl (lv_at hl 0 rfl) ?_
      refine gfX5_19 X hH ho dX5_fewestClerks_14 ?_
      have h10 : gsh G (mP σ o 1) = some 1 := hH.2.2.1 _ _ _ _ ho rfl
      refine lv_aload_n X.hx X.hb dX5_fewestClerks_17 rfl (lv_at hl 0 rfl) ?_
      refine gfX5_65 X hH ho dX5_fewestClerks_18 ?_
      refine lv_iload_n X.hx X.hb dX5_fewestClerks_21 rfl (lv_at hl 1 rfl) ?_
      refine lv_aload_n X.hx X.hb dX5_fewestClerks_22 rfl (lv_at hl 0 rfl) ?_
      refine gfX5_29 X hH ho dX5_fewestClerks_23 ?_
      have h11 : gsh G (mP σ o 3) = some 2 := hH.2.2.1 _ _ _ _ ho rfl
      refine gfX5_214 X hH h11 dX5_fewestClerks_26 ?_
      refine lv_iconst (v := 0) X.hx X.hb dX5_fewestClerks_29 (by decide) ?_
      refine lv_iload_n X.hx X.hb dX5_fewestClerks_30 rfl (lv_at hl 2 rfl) ?_
      obtain ⟨r12, σ13, hr, hf⟩ := bd2_e hf
      refine g_callSI (As := [.ref (gad G (mP σ o 1) 0), .ref (gad G o (11 + 1)), .int x1, .int (mI σ (mP σ o 3) 3), .int (0 : Int32), .int x2]) (rest := []) X (kX5_canMake l 10 h10 ⟨_, ho, rfl⟩ hr) ⟨cdX5_canMake, mlX5_288, stX5_canMake, iniX5⟩ hsX5_canMake ⟨Nat.le_of_ble_eq_true rfl, Nat.le_of_ble_eq_true rfl⟩ hH hS hl rfl rfl (Nat.le_of_ble_eq_true rfl) ⟨Nat.le_refl 0, Nat.le_refl 0⟩ dX5_fewestClerks_31 (fun H locs hH hS => ?_)
      refine lv_if_eq (tgt := 39) X.hx X.hb dX5_fewestClerks_34 (by decide) (fun c14 => ?_) (fun c14 => ?_)
      · have hf := it_p hf c14
        refine lv_iinc (v := x2 + 1) (lv' := [(2, .int (x2 + 1)), (0, .ref (gad G o 0)), (1, .int x1)]) X.hx X.hb dX5_fewestClerks_39 hl (k := 2) rfl rfl (by decide) rfl (fun ls hl => ?_)
        refine lv_goto (tgt := 2) X.hx X.hb dX5_fewestClerks_42 (by decide) ?_
        exact ih _ _ _  hf _ _ _ hH hS (lv_sub hl [1, 2, 0] rfl)
      · have hf := it_n hf c14
        refine lv_iload_n X.hx X.hb dX5_fewestClerks_37 rfl (lv_at hl 2 rfl) ?_
        have e := so2 hf
        rw [e.2] at hH
        exact g_iret X hH hS rfl e.1 dX5_fewestClerks_38
set_option maxRecDepth 20000 in
set_option maxHeartbeats 4000000 in
theorem kX5_fewestClerks (l : Launch) {G : gG} {σ : Mem} {r : Int32} {σ' : Mem} {o : Nat} {x1 : Int32} (ho : gsh G o = some 5)  (hf : fX5_fewestClerks σ o x1 = some (r, σ')) : CM l yX5_fewestClerks cX5_fewestClerks 3 (some .int) 13 333 G σ [.ref (gad G o 0), .int x1] (some (.int r)) σ' := by
  refine CM.of (by decide) (Nat.le_of_ble_eq_true rfl) (fun p e s m below meth c ls X hH hl => ?_)
  have X : gX p s m _ meth c yX5_fewestClerks cX5_fewestClerks 3 (some .int) RX5 G := X
  have hS : va_S (gAA G) s.heap s.heap [] := va_S.rf
  have hl : lv_has ls 3 [(0, .ref (gad G o 0)), (1, .int x1)] := hl
  rw [fX5_fewestClerks.eq_1] at hf
  refine lv_iconst (v := 0) X.hx X.hb dX5_fewestClerks_0 (by decide) ?_
  refine lv_istore_n (lv' := [(2, .int (0 : Int32)), (0, .ref (gad G o 0)), (1, .int x1)]) X.hx X.hb dX5_fewestClerks_1 rfl hl (by decide) rfl (fun ls hl => ?_)
  exact bX5_fewestClerks_2 X  ho  _ _ _ _  hf _ _ _ hH hS (lv_sub hl [1, 2, 0] rfl)
set_option maxRecDepth 20000 in
set_option maxHeartbeats 4000000 in
theorem kX5_chain (l : Launch) {G : gG} {σ : Mem} {r : Int32} {σ' : Mem} {o : Nat} {x1 : Int32} {x2 : Int32} (ho : gsh G o = some 5)  (hf : fX5_chain σ o x1 x2 = some (r, σ')) : CM l yX5_chain cX5_chain 4 (some .int) 14 355 G σ [.ref (gad G o 0), .int x1, .int x2] (some (.int r)) σ' := by
  refine CM.of (by decide) (Nat.le_of_ble_eq_true rfl) (fun p e s m below meth c ls X hH hl => ?_)
  have X : gX p s m _ meth c yX5_chain cX5_chain 4 (some .int) RX5 G := X
  have hS : va_S (gAA G) s.heap s.heap [] := va_S.rf
  have hl : lv_has ls 4 [(0, .ref (gad G o 0)), (1, .int x1), (2, .int x2)] := hl
  rw [fX5_chain.eq_1] at hf
  refine lv_iload_n X.hx X.hb dX5_chain_0 rfl (lv_at hl 1 rfl) ?_
  obtain ⟨r10, hr, hf⟩ := bd_e hf
  refine g_callSI (As := [.int x1]) (rest := []) X (kX5_isWholeLetter l  hr) ⟨cdX5_isWholeLetter, mlX5_242, stX5_isWholeLetter, iniX5⟩ hsX5_isWholeLetter ⟨Nat.le_of_ble_eq_true rfl, Nat.le_of_ble_eq_true rfl⟩ hH hS hl rfl rfl (Nat.le_of_ble_eq_true rfl) ⟨Nat.le_refl 0, Nat.le_refl 0⟩ dX5_chain_1 (fun H locs hH hS => ?_)
  refine lv_if_eq (tgt := 12) X.hx X.hb dX5_chain_4 (by decide) (fun c11 => ?_) (fun c11 => ?_)
  · have hf := it_p hf c11
    refine lv_iconst (v := -1) X.hx X.hb dX5_chain_12 (by decide) ?_
    have e := so2 hf
    rw [e.2] at hH
    exact g_iret X hH hS rfl e.1 dX5_chain_13
  · have hf := it_n hf c11
    refine lv_iload_n X.hx X.hb dX5_chain_7 rfl (lv_at hl 2 rfl) ?_
    refine lv_iconst (v := -1) X.hx X.hb dX5_chain_8 (by decide) ?_
    refine lv_icmp_ge (tgt := 14) X.hx X.hb dX5_chain_9 (by decide) (fun c12 => ?_) (fun c12 => ?_)
    · have hf := it_p hf c12
      refine lv_aload_n X.hx X.hb dX5_chain_14 rfl (lv_at hl 0 rfl) ?_
      refine lv_iload_n X.hx X.hb dX5_chain_15 rfl (lv_at hl 1 rfl) ?_
      obtain ⟨r13, σ14, hr, hf⟩ := bd2_e hf
      refine g_callVI (As := [.int x1]) (rest := []) X (kX5_fewestClerks l ho hr) (C := RX5) (T := TX5) (N := 14) (ci := 5) rfl ho ⟨cdX5_fewestClerks, mlX5_248, imX5_fewestClerks, seX5_fewestClerks, iniX5⟩ hvX5_fewestClerks ⟨Nat.le_of_ble_eq_true rfl, Nat.le_of_ble_eq_true rfl⟩ hH hS hl rfl rfl (Nat.le_of_ble_eq_true rfl) ⟨Nat.le_refl 0, Nat.le_refl 0⟩ dX5_chain_16 (fun H locs hH hS => ?_)
      refine lv_istore_n (lv' := [(3, .int r13), (0, .ref (gad G o 0)), (1, .int x1), (2, .int x2)]) X.hx X.hb dX5_chain_19 rfl hl (by decide) rfl (fun ls hl => ?_)
      refine lv_iload_n X.hx X.hb dX5_chain_20 rfl (lv_at hl 0 rfl) ?_
      refine lv_bipush (v := -9) X.hx X.hb dX5_chain_21 (by decide) ?_
      refine lv_icmp_eq (tgt := 31) X.hx X.hb dX5_chain_23 (by decide) (fun c15 => ?_) (fun c15 => ?_)
      · have hf := it_p hf c15
        refine lv_iload_n X.hx X.hb dX5_chain_31 rfl (lv_at hl 0 rfl) ?_
        have e := so2 hf
        rw [e.2] at hH
        exact g_iret X hH hS rfl e.1 dX5_chain_32
      · have hf := it_n hf c15
        refine lv_iload_n X.hx X.hb dX5_chain_26 rfl (lv_at hl 3 rfl) ?_
        refine lv_iconst (v := -1) X.hx X.hb dX5_chain_27 (by decide) ?_
        refine lv_icmp_ne (tgt := 33) X.hx X.hb dX5_chain_28 (by decide) (fun c16 => ?_) (fun c16 => ?_)
        · have hf := it_n hf c16
          refine lv_iload_n X.hx X.hb dX5_chain_33 rfl (lv_at hl 3 rfl) ?_
          refine lv_iload_n X.hx X.hb dX5_chain_34 rfl (lv_at hl 0 rfl) ?_
          refine lv_icmp_ge (tgt := 52) X.hx X.hb dX5_chain_35 (by decide) (fun c17 => ?_) (fun c17 => ?_)
          · have hf := it_p hf c17
            refine lv_bipush (v := -5) X.hx X.hb dX5_chain_52 (by decide) ?_
            have e := so2 hf
            rw [e.2] at hH
            exact g_iret X hH hS rfl e.1 dX5_chain_54
          · have hf := it_n hf c17
            refine lv_iload_n X.hx X.hb dX5_chain_38 rfl (lv_at hl 3 rfl) ?_
            refine lv_iconst (v := 4) X.hx X.hb dX5_chain_39 (by decide) ?_
            refine lv_icmp_ge (tgt := 52) X.hx X.hb dX5_chain_40 (by decide) (fun c18 => ?_) (fun c18 => ?_)
            · have hf := it_p hf c18
              refine lv_bipush (v := -5) X.hx X.hb dX5_chain_52 (by decide) ?_
              have e := so2 hf
              rw [e.2] at hH
              exact g_iret X hH hS rfl e.1 dX5_chain_54
            · have hf := it_n hf c18
              refine lv_aload_n X.hx X.hb dX5_chain_43 rfl (lv_at hl 1 rfl) ?_
              refine gfX5_65 X hH ho dX5_chain_44 ?_
              refine lv_iload_n X.hx X.hb dX5_chain_47 rfl (lv_at hl 3 rfl) ?_
              obtain ⟨hg, hf⟩ := gd_e hf
              refine g_iald X hH ⟨_, ho, rfl⟩ hg dX5_chain_48 ?_
              refine lv_goto (tgt := 54) X.hx X.hb dX5_chain_49 (by decide) ?_
              have e := so2 hf
              rw [e.2] at hH
              exact g_iret X hH hS rfl e.1 dX5_chain_54
        · have hf := it_p hf c16
          refine lv_iload_n X.hx X.hb dX5_chain_31 rfl (lv_at hl 0 rfl) ?_
          have e := so2 hf
          rw [e.2] at hH
          exact g_iret X hH hS rfl e.1 dX5_chain_32
    · have hf := it_n hf c12
      refine lv_iconst (v := -1) X.hx X.hb dX5_chain_12 (by decide) ?_
      have e := so2 hf
      rw [e.2] at hH
      exact g_iret X hH hS rfl e.1 dX5_chain_13
set_option maxRecDepth 20000 in
set_option maxHeartbeats 4000000 in
theorem kX5_asClerk (l : Launch) {G : gG} {σ : Mem} {r : Int32} {σ' : Mem} {o : Nat} {x1 : Int32} (ho : gsh G o = some 5)  (hf : fX5_asClerk σ o x1 = some (r, σ')) : CM l yX5_asClerk cX5_asClerk 2 (some .int) 1 20 G σ [.ref (gad G o 0), .int x1] (some (.int r)) σ' := by
  refine CM.of (by decide) (Nat.le_of_ble_eq_true rfl) (fun p e s m below meth c ls X hH hl => ?_)
  have X : gX p s m _ meth c yX5_asClerk cX5_asClerk 2 (some .int) RX5 G := X
  have hS : va_S (gAA G) s.heap s.heap [] := va_S.rf
  have hl : lv_has ls 2 [(0, .ref (gad G o 0)), (1, .int x1)] := hl
  rw [fX5_asClerk.eq_1] at hf
  refine lv_aload_n X.hx X.hb dX5_asClerk_0 rfl (lv_at hl 0 rfl) ?_
  refine lv_dup X.hx X.hb dX5_asClerk_1 rfl ?_
  refine gfX5_71 X hH ho dX5_asClerk_2 ?_
  refine lv_lconst (v := 1) X.hx X.hb dX5_asClerk_5 (by decide) ?_
  refine lv_ladd X.hx X.hb dX5_asClerk_6 ?_
  refine pfX5_71 X hH hS ho  dX5_asClerk_7 (fun H locs hH hS => ?_)
  obtain ⟨σ4, he, hf⟩ := stp_e hf
  rw [← he] at hH
  clear he
  refine lv_aload_n X.hx X.hb dX5_asClerk_10 rfl (lv_at hl 0 rfl) ?_
  refine gfX5_19 X hH ho dX5_asClerk_11 ?_
  have h5 : gsh G (mP σ4 o 1) = some 1 := hH.2.2.1 _ _ _ _ ho rfl
  refine gfX5_114 X hH h5 dX5_asClerk_14 ?_
  refine lv_iload_n X.hx X.hb dX5_asClerk_17 rfl (lv_at hl 1 rfl) ?_
  obtain ⟨hg, hf⟩ := gd_e hf
  refine g_iald X hH ⟨_, h5, rfl⟩ hg dX5_asClerk_18 ?_
  obtain ⟨r6, hr, hf⟩ := bd_e hf
  refine g_callSI (As := [.int (mA σ4 (mP σ4 o 1) 8 x1.toNatClampNeg)]) (rest := []) X (kJ6_bitCount_0f7a4 l  hr) ⟨cdJ6_bitCount_0f7a4, mlX5_155, stJ6_bitCount_0f7a4, iniJ6⟩ hsJ6_bitCount_0f7a4 ⟨Nat.le_of_ble_eq_true rfl, Nat.le_of_ble_eq_true rfl⟩ hH hS hl rfl rfl (Nat.le_of_ble_eq_true rfl) ⟨Nat.le_refl 0, Nat.le_refl 0⟩ dX5_asClerk_19 (fun H locs hH hS => ?_)
  have e := so2 hf
  rw [e.2] at hH
  exact g_iret X hH hS rfl e.1 dX5_asClerk_22
set_option maxRecDepth 20000 in
set_option maxHeartbeats 4000000 in
theorem kX5_asNun (l : Launch) {G : gG} {σ : Mem} {r : Int32} {σ' : Mem} {o : Nat} {x1 : Int32} (ho : gsh G o = some 5)  (hf : fX5_asNun σ o x1 = some (r, σ')) : CM l yX5_asNun cX5_asNun 2 (some .int) 2 41 G σ [.ref (gad G o 0), .int x1] (some (.int r)) σ' := by
  refine CM.of (by decide) (Nat.le_of_ble_eq_true rfl) (fun p e s m below meth c ls X hH hl => ?_)
  have X : gX p s m _ meth c yX5_asNun cX5_asNun 2 (some .int) RX5 G := X
  have hS : va_S (gAA G) s.heap s.heap [] := va_S.rf
  have hl : lv_has ls 2 [(0, .ref (gad G o 0)), (1, .int x1)] := hl
  rw [fX5_asNun.eq_1] at hf
  refine lv_aload_n X.hx X.hb dX5_asNun_0 rfl (lv_at hl 0 rfl) ?_
  refine lv_dup X.hx X.hb dX5_asNun_1 rfl ?_
  refine gfX5_71 X hH ho dX5_asNun_2 ?_
  refine lv_ldc2 X.hx X.hb X.hown (X.w kcX5_296) dX5_asNun_5 ?_
  refine lv_ladd X.hx X.hb dX5_asNun_8 ?_
  refine pfX5_71 X hH hS ho  dX5_asNun_9 (fun H locs hH hS => ?_)
  obtain ⟨σ5, he, hf⟩ := stp_e hf
  rw [← he] at hH
  clear he
  refine lv_aload_n X.hx X.hb dX5_asNun_12 rfl (lv_at hl 0 rfl) ?_
  refine lv_iload_n X.hx X.hb dX5_asNun_13 rfl (lv_at hl 1 rfl) ?_
  obtain ⟨r6, σ7, hr, hf⟩ := bd2_e hf
  refine g_callVI (As := [.int x1]) (rest := []) X (kX5_asClerk l ho hr) (C := RX5) (T := TX5) (N := 14) (ci := 5) rfl ho ⟨cdX5_asClerk, mlX5_252, imX5_asClerk, seX5_asClerk, iniX5⟩ hvX5_asClerk ⟨Nat.le_of_ble_eq_true rfl, Nat.le_of_ble_eq_true rfl⟩ hH hS hl rfl rfl (Nat.le_of_ble_eq_true rfl) ⟨Nat.le_refl 0, Nat.le_refl 0⟩ dX5_asNun_14 (fun H locs hH hS => ?_)
  refine lv_aload_n X.hx X.hb dX5_asNun_17 rfl (lv_at hl 0 rfl) ?_
  refine gfX5_19 X hH ho dX5_asNun_18 ?_
  have h8 : gsh G (mP σ7 o 1) = some 1 := hH.2.2.1 _ _ _ _ ho rfl
  refine gfX5_117 X hH h8 dX5_asNun_21 ?_
  refine lv_iload_n X.hx X.hb dX5_asNun_24 rfl (lv_at hl 1 rfl) ?_
  obtain ⟨hg, hf⟩ := gd_e hf
  refine g_iald X hH ⟨_, h8, rfl⟩ hg dX5_asNun_25 ?_
  refine lv_iadd X.hx X.hb dX5_asNun_26 ?_
  have e := so2 hf
  rw [e.2] at hH
  exact g_iret X hH hS rfl e.1 dX5_asNun_27
set_option maxRecDepth 20000 in
set_option maxHeartbeats 4000000 in
theorem kX5_asAbbess (l : Launch) {G : gG} {σ : Mem} {r : Int32} {σ' : Mem} {o : Nat} {x1 : Int32} (ho : gsh G o = some 5)  (hf : fX5_asAbbess σ o x1 = some (r, σ')) : CM l yX5_asAbbess cX5_asAbbess 2 (some .int) 3 62 G σ [.ref (gad G o 0), .int x1] (some (.int r)) σ' := by
  refine CM.of (by decide) (Nat.le_of_ble_eq_true rfl) (fun p e s m below meth c ls X hH hl => ?_)
  have X : gX p s m _ meth c yX5_asAbbess cX5_asAbbess 2 (some .int) RX5 G := X
  have hS : va_S (gAA G) s.heap s.heap [] := va_S.rf
  have hl : lv_has ls 2 [(0, .ref (gad G o 0)), (1, .int x1)] := hl
  rw [fX5_asAbbess.eq_1] at hf
  refine lv_aload_n X.hx X.hb dX5_asAbbess_0 rfl (lv_at hl 0 rfl) ?_
  refine lv_dup X.hx X.hb dX5_asAbbess_1 rfl ?_
  refine gfX5_71 X hH ho dX5_asAbbess_2 ?_
  refine lv_ldc2 X.hx X.hb X.hown (X.w kcX5_300) dX5_asAbbess_5 ?_
  refine lv_ladd X.hx X.hb dX5_asAbbess_8 ?_
  refine pfX5_71 X hH hS ho  dX5_asAbbess_9 (fun H locs hH hS => ?_)
  obtain ⟨σ4, he, hf⟩ := stp_e hf
  rw [← he] at hH
  clear he
  refine lv_iconst (v := 2) X.hx X.hb dX5_asAbbess_12 (by decide) ?_
  refine lv_aload_n X.hx X.hb dX5_asAbbess_13 rfl (lv_at hl 0 rfl) ?_
  refine lv_iload_n X.hx X.hb dX5_asAbbess_14 rfl (lv_at hl 1 rfl) ?_
  obtain ⟨r5, σ6, hr, hf⟩ := bd2_e hf
  refine g_callVI (As := [.int x1]) (rest := [.int (2 : Int32)]) X (kX5_asNun l ho hr) (C := RX5) (T := TX5) (N := 14) (ci := 5) rfl ho ⟨cdX5_asNun, mlX5_255, imX5_asNun, seX5_asNun, iniX5⟩ hvX5_asNun ⟨Nat.le_of_ble_eq_true rfl, Nat.le_of_ble_eq_true rfl⟩ hH hS hl rfl rfl (Nat.le_of_ble_eq_true rfl) ⟨Nat.le_refl 0, Nat.le_refl 0⟩ dX5_asAbbess_15 (fun H locs hH hS => ?_)
  refine lv_imul X.hx X.hb dX5_asAbbess_18 ?_
  have e := so2 hf
  rw [e.2] at hH
  exact g_iret X hH hS rfl e.1 dX5_asAbbess_19
set_option maxRecDepth 20000 in
set_option maxHeartbeats 4000000 in
theorem kX5_asNephew (l : Launch) {G : gG} {σ : Mem} {r : Int32} {σ' : Mem} {o : Nat} {x1 : Int32} (ho : gsh G o = some 5)  (hf : fX5_asNephew σ o x1 = some (r, σ')) : CM l yX5_asNephew cX5_asNephew 2 (some .int) 2 41 G σ [.ref (gad G o 0), .int x1] (some (.int r)) σ' := by
  refine CM.of (by decide) (Nat.le_of_ble_eq_true rfl) (fun p e s m below meth c ls X hH hl => ?_)
  have X : gX p s m _ meth c yX5_asNephew cX5_asNephew 2 (some .int) RX5 G := X
  have hS : va_S (gAA G) s.heap s.heap [] := va_S.rf
  have hl : lv_has ls 2 [(0, .ref (gad G o 0)), (1, .int x1)] := hl
  rw [fX5_asNephew.eq_1] at hf
  refine lv_aload_n X.hx X.hb dX5_asNephew_0 rfl (lv_at hl 0 rfl) ?_
  refine lv_dup X.hx X.hb dX5_asNephew_1 rfl ?_
  refine gfX5_71 X hH ho dX5_asNephew_2 ?_
  refine lv_ldc2 X.hx X.hb X.hown (X.w kcX5_298) dX5_asNephew_5 ?_
  refine lv_ladd X.hx X.hb dX5_asNephew_8 ?_
  refine pfX5_71 X hH hS ho  dX5_asNephew_9 (fun H locs hH hS => ?_)
  obtain ⟨σ5, he, hf⟩ := stp_e hf
  rw [← he] at hH
  clear he
  refine lv_aload_n X.hx X.hb dX5_asNephew_12 rfl (lv_at hl 0 rfl) ?_
  refine lv_iload_n X.hx X.hb dX5_asNephew_13 rfl (lv_at hl 1 rfl) ?_
  obtain ⟨r6, σ7, hr, hf⟩ := bd2_e hf
  refine g_callVI (As := [.int x1]) (rest := []) X (kX5_asClerk l ho hr) (C := RX5) (T := TX5) (N := 14) (ci := 5) rfl ho ⟨cdX5_asClerk, mlX5_252, imX5_asClerk, seX5_asClerk, iniX5⟩ hvX5_asClerk ⟨Nat.le_of_ble_eq_true rfl, Nat.le_of_ble_eq_true rfl⟩ hH hS hl rfl rfl (Nat.le_of_ble_eq_true rfl) ⟨Nat.le_refl 0, Nat.le_refl 0⟩ dX5_asNephew_14 (fun H locs hH hS => ?_)
  refine lv_aload_n X.hx X.hb dX5_asNephew_17 rfl (lv_at hl 0 rfl) ?_
  refine gfX5_19 X hH ho dX5_asNephew_18 ?_
  have h8 : gsh G (mP σ7 o 1) = some 1 := hH.2.2.1 _ _ _ _ ho rfl
  refine gfX5_120 X hH h8 dX5_asNephew_21 ?_
  refine lv_iload_n X.hx X.hb dX5_asNephew_24 rfl (lv_at hl 1 rfl) ?_
  obtain ⟨hg, hf⟩ := gd_e hf
  refine g_iald X hH ⟨_, h8, rfl⟩ hg dX5_asNephew_25 ?_
  refine lv_isub X.hx X.hb dX5_asNephew_26 ?_
  have e := so2 hf
  rw [e.2] at hH
  exact g_iret X hH hS rfl e.1 dX5_asNephew_27
set_option maxRecDepth 20000 in
set_option maxHeartbeats 4000000 in
theorem kX5_asForger (l : Launch) {G : gG} {σ : Mem} {r : Int32} {σ' : Mem} {o : Nat} {x1 : Int32} (ho : gsh G o = some 5)  (hf : fX5_asForger σ o x1 = some (r, σ')) : CM l yX5_asForger cX5_asForger 2 (some .int) 3 62 G σ [.ref (gad G o 0), .int x1] (some (.int r)) σ' := by
  refine CM.of (by decide) (Nat.le_of_ble_eq_true rfl) (fun p e s m below meth c ls X hH hl => ?_)
  have X : gX p s m _ meth c yX5_asForger cX5_asForger 2 (some .int) RX5 G := X
  have hS : va_S (gAA G) s.heap s.heap [] := va_S.rf
  have hl : lv_has ls 2 [(0, .ref (gad G o 0)), (1, .int x1)] := hl
  rw [fX5_asForger.eq_1] at hf
  refine lv_aload_n X.hx X.hb dX5_asForger_0 rfl (lv_at hl 0 rfl) ?_
  refine lv_dup X.hx X.hb dX5_asForger_1 rfl ?_
  refine gfX5_71 X hH ho dX5_asForger_2 ?_
  refine lv_ldc2 X.hx X.hb X.hown (X.w kcX5_302) dX5_asForger_5 ?_
  refine lv_ladd X.hx X.hb dX5_asForger_8 ?_
  refine pfX5_71 X hH hS ho  dX5_asForger_9 (fun H locs hH hS => ?_)
  obtain ⟨σ4, he, hf⟩ := stp_e hf
  rw [← he] at hH
  clear he
  refine lv_aload_n X.hx X.hb dX5_asForger_12 rfl (lv_at hl 0 rfl) ?_
  refine lv_iload_n X.hx X.hb dX5_asForger_13 rfl (lv_at hl 1 rfl) ?_
  obtain ⟨r5, σ6, hr, hf⟩ := bd2_e hf
  refine g_callVI (As := [.int x1]) (rest := []) X (kX5_asNephew l ho hr) (C := RX5) (T := TX5) (N := 14) (ci := 5) rfl ho ⟨cdX5_asNephew, mlX5_258, imX5_asNephew, seX5_asNephew, iniX5⟩ hvX5_asNephew ⟨Nat.le_of_ble_eq_true rfl, Nat.le_of_ble_eq_true rfl⟩ hH hS hl rfl rfl (Nat.le_of_ble_eq_true rfl) ⟨Nat.le_refl 0, Nat.le_refl 0⟩ dX5_asForger_14 (fun H locs hH hS => ?_)
  refine lv_iload_n X.hx X.hb dX5_asForger_17 rfl (lv_at hl 1 rfl) ?_
  refine lv_iadd X.hx X.hb dX5_asForger_18 ?_
  have e := so2 hf
  rw [e.2] at hH
  exact g_iret X hH hS rfl e.1 dX5_asForger_19
set_option maxRecDepth 20000 in
set_option maxHeartbeats 4000000 in
theorem kX5_asGull (l : Launch) {G : gG} {σ : Mem} {r : Int32} {σ' : Mem} {o : Nat} {x1 : Int32} (ho : gsh G o = some 5)  (hf : fX5_asGull σ o x1 = some (r, σ')) : CM l yX5_asGull cX5_asGull 2 (some .int) 2 41 G σ [.ref (gad G o 0), .int x1] (some (.int r)) σ' := by
  refine CM.of (by decide) (Nat.le_of_ble_eq_true rfl) (fun p e s m below meth c ls X hH hl => ?_)
  have X : gX p s m _ meth c yX5_asGull cX5_asGull 2 (some .int) RX5 G := X
  have hS : va_S (gAA G) s.heap s.heap [] := va_S.rf
  have hl : lv_has ls 2 [(0, .ref (gad G o 0)), (1, .int x1)] := hl
  rw [fX5_asGull.eq_1] at hf
  refine lv_aload_n X.hx X.hb dX5_asGull_0 rfl (lv_at hl 0 rfl) ?_
  refine lv_dup X.hx X.hb dX5_asGull_1 rfl ?_
  refine gfX5_71 X hH ho dX5_asGull_2 ?_
  refine lv_ldc2 X.hx X.hb X.hown (X.w kcX5_304) dX5_asGull_5 ?_
  refine lv_ladd X.hx X.hb dX5_asGull_8 ?_
  refine pfX5_71 X hH hS ho  dX5_asGull_9 (fun H locs hH hS => ?_)
  obtain ⟨σ6, he, hf⟩ := stp_e hf
  rw [← he] at hH
  clear he
  refine lv_aload_n X.hx X.hb dX5_asGull_12 rfl (lv_at hl 0 rfl) ?_
  refine lv_iload_n X.hx X.hb dX5_asGull_13 rfl (lv_at hl 1 rfl) ?_
  obtain ⟨r7, σ8, hr, hf⟩ := bd2_e hf
  refine g_callVI (As := [.int x1]) (rest := []) X (kX5_asClerk l ho hr) (C := RX5) (T := TX5) (N := 14) (ci := 5) rfl ho ⟨cdX5_asClerk, mlX5_252, imX5_asClerk, seX5_asClerk, iniX5⟩ hvX5_asClerk ⟨Nat.le_of_ble_eq_true rfl, Nat.le_of_ble_eq_true rfl⟩ hH hS hl rfl rfl (Nat.le_of_ble_eq_true rfl) ⟨Nat.le_refl 0, Nat.le_refl 0⟩ dX5_asGull_14 (fun H locs hH hS => ?_)
  refine lv_aload_n X.hx X.hb dX5_asGull_17 rfl (lv_at hl 0 rfl) ?_
  refine gfX5_29 X hH ho dX5_asGull_18 ?_
  have h9 : gsh G (mP σ8 o 3) = some 2 := hH.2.2.1 _ _ _ _ ho rfl
  refine gfX5_136 X hH h9 dX5_asGull_21 ?_
  obtain ⟨r10, hr, hf⟩ := bd_e hf
  refine g_callSI (As := [.int (mI σ8 (mP σ8 o 3) 2)]) (rest := [.int r7]) X (kJ6_bitCount_0f7a4 l  hr) ⟨cdJ6_bitCount_0f7a4, mlX5_155, stJ6_bitCount_0f7a4, iniJ6⟩ hsJ6_bitCount_0f7a4 ⟨Nat.le_of_ble_eq_true rfl, Nat.le_of_ble_eq_true rfl⟩ hH hS hl rfl rfl (Nat.le_of_ble_eq_true rfl) ⟨Nat.le_refl 0, Nat.le_refl 0⟩ dX5_asGull_24 (fun H locs hH hS => ?_)
  refine lv_iadd X.hx X.hb dX5_asGull_27 ?_
  have e := so2 hf
  rw [e.2] at hH
  exact g_iret X hH hS rfl e.1 dX5_asGull_28
