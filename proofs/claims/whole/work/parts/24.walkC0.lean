set_option maxRecDepth 20000 in
set_option maxHeartbeats 4000000 in
theorem bX2_becomeAs_34 {p : Program} {l : Launch} {e : Env} {s : State} {m : MethodId} {args : Array Value} {below : List Frame} {meth : Method} {c : Code} {G : gG} (X : gX p s m args meth c yX2_becomeAs cX2_becomeAs 3 none RX2 G) {o : Nat} (ho : gsh G o = some 2)  {σ' : Mem} : (∀ (n : Nat) (σ : Mem) (q1 : Nat) (x2 : Int32), gsh G q1 = some 2 → fX2_becomeAs_34 o n σ q1 x2 = some σ' → ∀ (H : Heap) (locs : List Loc) (ls : Array Slot), gH G σ H → va_S (gAA G) s.heap H locs → lv_has ls 3 [(0, .ref (gad G o 0)), (1, .ref (gad G q1 0)), (2, .int x2)] → WB p l e 0 0 s m args below meth c G none σ' H locs (F0 m 34 ls [])) := by
  intro n
  induction n with
  | zero => intro σ q1 x2 hq1 hf H locs ls hH hS hl; exact nomatch (show (none : Option Mem) = some _ from hf)
  | succ n ih =>
    intro σ q1 x2 hq1 hf H locs ls hH hS hl
    rw [fX2_becomeAs_34.eq_2] at hf
    refine lv_iload_n X.hx X.hb dX2_becomeAs_34 rfl (lv_at hl 2 rfl) ?_
    refine lv_iconst (v := 3) X.hx X.hb dX2_becomeAs_35 (by decide) ?_
    refine lv_icmp_ge (tgt := 69) X.hx X.hb dX2_becomeAs_36 (by decide) (fun c8 => ?_) (fun c8 => ?_)
    · have hf := it_p hf c8
      have e := so1 hf
      rw [e] at hH
      exact g_vret X hH hS rfl dX2_becomeAs_69
    · have hf := it_n hf c8
      refine lv_aload_n X.hx X.hb dX2_becomeAs_39 rfl (lv_at hl 0 rfl) ?_
      refine gfX2_9 X hH ho dX2_becomeAs_40 ?_
      refine lv_iload_n X.hx X.hb dX2_becomeAs_43 rfl (lv_at hl 2 rfl) ?_
      refine lv_aload_n X.hx X.hb dX2_becomeAs_44 rfl (lv_at hl 1 rfl) ?_
      refine gfX2_9 X hH hq1 dX2_becomeAs_45 ?_
      refine lv_iload_n X.hx X.hb dX2_becomeAs_48 rfl (lv_at hl 2 rfl) ?_
      obtain ⟨hg, hf⟩ := gd_e hf
      refine g_iald X hH ⟨_, hq1, rfl⟩ hg dX2_becomeAs_49 ?_
      obtain ⟨hg, hf⟩ := gd_e hf
      refine g_iast X hH hS ⟨_, ho, rfl⟩ hg dX2_becomeAs_50 (fun H locs hH hS => ?_)
      obtain ⟨σ9, he, hf⟩ := stp_e hf
      rw [← he] at hH
      clear he
      refine lv_aload_n X.hx X.hb dX2_becomeAs_51 rfl (lv_at hl 0 rfl) ?_
      refine gfX2_15 X hH ho dX2_becomeAs_52 ?_
      refine lv_iload_n X.hx X.hb dX2_becomeAs_55 rfl (lv_at hl 2 rfl) ?_
      refine lv_aload_n X.hx X.hb dX2_becomeAs_56 rfl (lv_at hl 1 rfl) ?_
      refine gfX2_15 X hH hq1 dX2_becomeAs_57 ?_
      refine lv_iload_n X.hx X.hb dX2_becomeAs_60 rfl (lv_at hl 2 rfl) ?_
      obtain ⟨hg, hf⟩ := gd_e hf
      refine g_iald X hH ⟨_, hq1, rfl⟩ hg dX2_becomeAs_61 ?_
      obtain ⟨hg, hf⟩ := gd_e hf
      refine g_iast X hH hS ⟨_, ho, rfl⟩ hg dX2_becomeAs_62 (fun H locs hH hS => ?_)
      obtain ⟨σ10, he, hf⟩ := stp_e hf
      rw [← he] at hH
      clear he
      refine lv_iinc (v := x2 + 1) (lv' := [(2, .int (x2 + 1)), (0, .ref (gad G o 0)), (1, .ref (gad G q1 0))]) X.hx X.hb dX2_becomeAs_63 hl (k := 2) rfl rfl (by decide) rfl (fun ls hl => ?_)
      refine lv_goto (tgt := 34) X.hx X.hb dX2_becomeAs_66 (by decide) ?_
      exact ih _ _ _ hq1 hf _ _ _ hH hS (lv_sub hl [1, 2, 0] rfl)
set_option maxRecDepth 20000 in
set_option maxHeartbeats 4000000 in
theorem kX2_becomeAs (l : Launch) {G : gG} {σ : Mem} {σ' : Mem} {o : Nat} {q1 : Nat} (ho : gsh G o = some 2) (hq1 : gsh G q1 = some 2) (hf : fX2_becomeAs σ o q1 = some σ') : CM l yX2_becomeAs cX2_becomeAs 3 none 0 0 G σ [.ref (gad G o 0), .ref (gad G q1 0)] none σ' := by
  refine CM.of (by decide) (Nat.le_of_ble_eq_true rfl) (fun p e s m below meth c ls X hH hl => ?_)
  have X : gX p s m _ meth c yX2_becomeAs cX2_becomeAs 3 none RX2 G := X
  have hS : va_S (gAA G) s.heap s.heap [] := va_S.rf
  have hl : lv_has ls 3 [(0, .ref (gad G o 0)), (1, .ref (gad G q1 0))] := hl
  rw [fX2_becomeAs.eq_1] at hf
  refine lv_aload_n X.hx X.hb dX2_becomeAs_0 rfl (lv_at hl 0 rfl) ?_
  refine lv_aload_n X.hx X.hb dX2_becomeAs_1 rfl (lv_at hl 1 rfl) ?_
  refine gfX2_21 X hH hq1 dX2_becomeAs_2 ?_
  refine pfX2_21 X hH hS ho  dX2_becomeAs_5 (fun H locs hH hS => ?_)
  obtain ⟨σ11, he, hf⟩ := stp_e hf
  rw [← he] at hH
  clear he
  refine lv_aload_n X.hx X.hb dX2_becomeAs_8 rfl (lv_at hl 0 rfl) ?_
  refine lv_aload_n X.hx X.hb dX2_becomeAs_9 rfl (lv_at hl 1 rfl) ?_
  refine gfX2_25 X hH hq1 dX2_becomeAs_10 ?_
  refine pfX2_25 X hH hS ho  dX2_becomeAs_13 (fun H locs hH hS => ?_)
  obtain ⟨σ12, he, hf⟩ := stp_e hf
  rw [← he] at hH
  clear he
  refine lv_aload_n X.hx X.hb dX2_becomeAs_16 rfl (lv_at hl 0 rfl) ?_
  refine lv_aload_n X.hx X.hb dX2_becomeAs_17 rfl (lv_at hl 1 rfl) ?_
  refine gfX2_28 X hH hq1 dX2_becomeAs_18 ?_
  refine pfX2_28 X hH hS ho  dX2_becomeAs_21 (fun H locs hH hS => ?_)
  obtain ⟨σ13, he, hf⟩ := stp_e hf
  rw [← he] at hH
  clear he
  refine lv_aload_n X.hx X.hb dX2_becomeAs_24 rfl (lv_at hl 0 rfl) ?_
  refine lv_aload_n X.hx X.hb dX2_becomeAs_25 rfl (lv_at hl 1 rfl) ?_
  refine gfX2_31 X hH hq1 dX2_becomeAs_26 ?_
  refine pfX2_31 X hH hS ho  dX2_becomeAs_29 (fun H locs hH hS => ?_)
  obtain ⟨σ14, he, hf⟩ := stp_e hf
  rw [← he] at hH
  clear he
  refine lv_iconst (v := 0) X.hx X.hb dX2_becomeAs_32 (by decide) ?_
  refine lv_istore_n (lv' := [(2, .int (0 : Int32)), (0, .ref (gad G o 0)), (1, .ref (gad G q1 0))]) X.hx X.hb dX2_becomeAs_33 rfl hl (by decide) rfl (fun ls hl => ?_)
  exact bX2_becomeAs_34 X  ho  _ _ _ _ hq1 hf _ _ _ hH hS (lv_sub hl [1, 2, 0] rfl)
set_option maxRecDepth 20000 in
set_option maxHeartbeats 4000000 in
theorem bX0_remember_33 {p : Program} {l : Launch} {e : Env} {s : State} {m : MethodId} {args : Array Value} {below : List Frame} {meth : Method} {c : Code} {G : gG} (X : gX p s m args meth c yX0_remember cX0_remember 2 none RX0 G) {o : Nat} (ho : gsh G o = some 0)  {σ' : Mem} : (∀ (σ : Mem) (xs0 : Int32), fX0_remember_33 o σ xs0 = some σ' → ∀ (H : Heap) (locs : List Loc) (ls : Array Slot), gH G σ H → va_S (gAA G) s.heap H locs → lv_has ls 2 [(0, .ref (gad G o 0))] → WB p l e 1 22 s m args below meth c G none σ' H locs (F0 m 33 ls [.int xs0, .ref (gad G o 0)])) := by
  intro σ xs0 hf H locs ls hH hS hl
  rw [fX0_remember_33.eq_1] at hf
  refine pfX0_15 X hH hS ho  dX0_remember_33 (fun H locs hH hS => ?_)
  obtain ⟨σ6, he, hf⟩ := stp_e hf
  rw [← he] at hH
  clear he
  refine lv_aload_n X.hx X.hb dX0_remember_36 rfl (lv_at hl 0 rfl) ?_
  refine lv_aload_n X.hx X.hb dX0_remember_37 rfl (lv_at hl 0 rfl) ?_
  refine gfX0_9 X hH ho dX0_remember_38 ?_
  refine lv_iconst (v := 1) X.hx X.hb dX0_remember_41 (by decide) ?_
  refine lv_iadd X.hx X.hb dX0_remember_42 ?_
  refine lv_bipush (v := 10) X.hx X.hb dX0_remember_43 (by decide) ?_
  refine g_min X hl mlX0_29 (Nat.le_of_ble_eq_true rfl) (Nat.le_of_ble_eq_true rfl) ⟨Nat.le_refl 0, Nat.le_refl 0⟩ dX0_remember_45 ?_
  refine pfX0_9 X hH hS ho  dX0_remember_48 (fun H locs hH hS => ?_)
  obtain ⟨σ7, he, hf⟩ := stp_e hf
  rw [← he] at hH
  clear he
  have e := so1 hf
  rw [e] at hH
  exact g_vret X hH hS rfl dX0_remember_51
set_option maxRecDepth 20000 in
set_option maxHeartbeats 4000000 in
theorem kX0_remember (l : Launch) {G : gG} {σ : Mem} {σ' : Mem} {o : Nat} {q1 : Nat} (ho : gsh G o = some 0) (hq1 : gsh G q1 = some 2) (hf : fX0_remember σ o q1 = some σ') : CM l yX0_remember cX0_remember 2 none 1 22 G σ [.ref (gad G o 0), .ref (gad G q1 0)] none σ' := by
  refine CM.of (by decide) (Nat.le_of_ble_eq_true rfl) (fun p e s m below meth c ls X hH hl => ?_)
  have X : gX p s m _ meth c yX0_remember cX0_remember 2 none RX0 G := X
  have hS : va_S (gAA G) s.heap s.heap [] := va_S.rf
  have hl : lv_has ls 2 [(0, .ref (gad G o 0)), (1, .ref (gad G q1 0))] := hl
  rw [fX0_remember.eq_1] at hf
  refine lv_aload_n X.hx X.hb dX0_remember_0 rfl (lv_at hl 0 rfl) ?_
  refine gfX0_20 X hH ho dX0_remember_1 ?_
  refine lv_aload_n X.hx X.hb dX0_remember_4 rfl (lv_at hl 0 rfl) ?_
  refine gfX0_15 X hH ho dX0_remember_5 ?_
  obtain ⟨hg, hf⟩ := gd_e hf
  refine g_aald X hH ⟨_, ho, rfl⟩ hg dX0_remember_8 (fun h8 => ?_)
  refine lv_aload_n X.hx X.hb dX0_remember_9 rfl (lv_at hl 1 rfl) ?_
  obtain ⟨σ9, hr, hf⟩ := bd_e hf
  refine g_callVV (As := [.ref (gad G q1 0)]) (rest := []) X (kX2_becomeAs l h8 hq1 hr) (C := RX2) (T := TX2) (N := 6) (ci := 2) rfl h8 ⟨cdX2_becomeAs, mlX0_25, imX2_becomeAs, seX2_becomeAs, iniX2⟩ hvX2_becomeAs ⟨Nat.le_of_ble_eq_true rfl, Nat.le_of_ble_eq_true rfl⟩ hH hS hl rfl rfl (Nat.le_of_ble_eq_true rfl) ⟨Nat.le_refl 0, Nat.le_refl 0⟩ dX0_remember_10 (fun H locs hH hS => ?_)
  refine lv_aload_n X.hx X.hb dX0_remember_13 rfl (lv_at hl 0 rfl) ?_
  refine lv_aload_n X.hx X.hb dX0_remember_14 rfl (lv_at hl 0 rfl) ?_
  refine gfX0_15 X hH ho dX0_remember_15 ?_
  refine lv_bipush (v := 9) X.hx X.hb dX0_remember_18 (by decide) ?_
  refine lv_icmp_ne (tgt := 27) X.hx X.hb dX0_remember_20 (by decide) (fun c10 => ?_) (fun c10 => ?_)
  · have hf := it_n hf c10
    refine lv_aload_n X.hx X.hb dX0_remember_27 rfl (lv_at hl 0 rfl) ?_
    refine gfX0_15 X hH ho dX0_remember_28 ?_
    refine lv_iconst (v := 1) X.hx X.hb dX0_remember_31 (by decide) ?_
    refine lv_iadd X.hx X.hb dX0_remember_32 ?_
    exact bX0_remember_33 X  ho   _ _  hf _ _ _ hH hS (lv_sub hl [0] rfl)
  · have hf := it_p hf c10
    refine lv_iconst (v := 0) X.hx X.hb dX0_remember_23 (by decide) ?_
    refine lv_goto (tgt := 33) X.hx X.hb dX0_remember_24 (by decide) ?_
    exact bX0_remember_33 X  ho   _ _  hf _ _ _ hH hS (lv_sub hl [0] rfl)
set_option maxRecDepth 20000 in
set_option maxHeartbeats 4000000 in
theorem bX0_takeBack_19 {p : Program} {l : Launch} {e : Env} {s : State} {m : MethodId} {args : Array Value} {below : List Frame} {meth : Method} {c : Code} {G : gG} (X : gX p s m args meth c yX0_takeBack cX0_takeBack 2 none RX0 G) {o : Nat} (ho : gsh G o = some 0)  {σ' : Mem} : (∀ (σ : Mem) (q1 : Nat) (xs0 : Int32), gsh G q1 = some 2 → fX0_takeBack_19 o σ q1 xs0 = some σ' → ∀ (H : Heap) (locs : List Loc) (ls : Array Slot), gH G σ H → va_S (gAA G) s.heap H locs → lv_has ls 2 [(0, .ref (gad G o 0)), (1, .ref (gad G q1 0))] → WB p l e 1 22 s m args below meth c G none σ' H locs (F0 m 19 ls [.int xs0, .ref (gad G o 0)])) := by
  intro σ q1 xs0 hq1 hf H locs ls hH hS hl
  rw [fX0_takeBack_19.eq_1] at hf
  refine pfX0_15 X hH hS ho  dX0_takeBack_19 (fun H locs hH hS => ?_)
  obtain ⟨σ6, he, hf⟩ := stp_e hf
  rw [← he] at hH
  clear he
  refine lv_aload_n X.hx X.hb dX0_takeBack_22 rfl (lv_at hl 1 rfl) ?_
  refine lv_aload_n X.hx X.hb dX0_takeBack_23 rfl (lv_at hl 0 rfl) ?_
  refine gfX0_20 X hH ho dX0_takeBack_24 ?_
  refine lv_aload_n X.hx X.hb dX0_takeBack_27 rfl (lv_at hl 0 rfl) ?_
  refine gfX0_15 X hH ho dX0_takeBack_28 ?_
  obtain ⟨hg, hf⟩ := gd_e hf
  refine g_aald X hH ⟨_, ho, rfl⟩ hg dX0_takeBack_31 (fun h7 => ?_)
  obtain ⟨σ8, hr, hf⟩ := bd_e hf
  refine g_callVV (As := [.ref (gad G (mE σ6 o 2 (mI σ6 o 1).toNatClampNeg) 0)]) (rest := []) X (kX2_becomeAs l hq1 h7 hr) (C := RX2) (T := TX2) (N := 6) (ci := 2) rfl hq1 ⟨cdX2_becomeAs, mlX0_25, imX2_becomeAs, seX2_becomeAs, iniX2⟩ hvX2_becomeAs ⟨Nat.le_of_ble_eq_true rfl, Nat.le_of_ble_eq_true rfl⟩ hH hS hl rfl rfl (Nat.le_of_ble_eq_true rfl) ⟨Nat.le_refl 0, Nat.le_refl 0⟩ dX0_takeBack_32 (fun H locs hH hS => ?_)
  refine lv_aload_n X.hx X.hb dX0_takeBack_35 rfl (lv_at hl 0 rfl) ?_
  refine lv_dup X.hx X.hb dX0_takeBack_36 rfl ?_
  refine gfX0_9 X hH ho dX0_takeBack_37 ?_
  refine lv_iconst (v := 1) X.hx X.hb dX0_takeBack_40 (by decide) ?_
  refine lv_isub X.hx X.hb dX0_takeBack_41 ?_
  refine pfX0_9 X hH hS ho  dX0_takeBack_42 (fun H locs hH hS => ?_)
  obtain ⟨σ9, he, hf⟩ := stp_e hf
  rw [← he] at hH
  clear he
  have e := so1 hf
  rw [e] at hH
  exact g_vret X hH hS rfl dX0_takeBack_45
set_option maxRecDepth 20000 in
set_option maxHeartbeats 4000000 in
theorem kX0_takeBack (l : Launch) {G : gG} {σ : Mem} {σ' : Mem} {o : Nat} {q1 : Nat} (ho : gsh G o = some 0) (hq1 : gsh G q1 = some 2) (hf : fX0_takeBack σ o q1 = some σ') : CM l yX0_takeBack cX0_takeBack 2 none 1 22 G σ [.ref (gad G o 0), .ref (gad G q1 0)] none σ' := by
  refine CM.of (by decide) (Nat.le_of_ble_eq_true rfl) (fun p e s m below meth c ls X hH hl => ?_)
  have X : gX p s m _ meth c yX0_takeBack cX0_takeBack 2 none RX0 G := X
  have hS : va_S (gAA G) s.heap s.heap [] := va_S.rf
  have hl : lv_has ls 2 [(0, .ref (gad G o 0)), (1, .ref (gad G q1 0))] := hl
  rw [fX0_takeBack.eq_1] at hf
  refine lv_aload_n X.hx X.hb dX0_takeBack_0 rfl (lv_at hl 0 rfl) ?_
  refine lv_aload_n X.hx X.hb dX0_takeBack_1 rfl (lv_at hl 0 rfl) ?_
  refine gfX0_15 X hH ho dX0_takeBack_2 ?_
  refine lv_if_ne (tgt := 13) X.hx X.hb dX0_takeBack_5 (by decide) (fun c10 => ?_) (fun c10 => ?_)
  · have hf := it_n hf c10
    refine lv_aload_n X.hx X.hb dX0_takeBack_13 rfl (lv_at hl 0 rfl) ?_
    refine gfX0_15 X hH ho dX0_takeBack_14 ?_
    refine lv_iconst (v := 1) X.hx X.hb dX0_takeBack_17 (by decide) ?_
    refine lv_isub X.hx X.hb dX0_takeBack_18 ?_
    exact bX0_takeBack_19 X  ho   _ _ _ hq1 hf _ _ _ hH hS (lv_sub hl [0, 1] rfl)
  · have hf := it_p hf c10
    refine lv_bipush (v := 9) X.hx X.hb dX0_takeBack_8 (by decide) ?_
    refine lv_goto (tgt := 19) X.hx X.hb dX0_takeBack_10 (by decide) ?_
    exact bX0_takeBack_19 X  ho   _ _ _ hq1 hf _ _ _ hH hS (lv_sub hl [0, 1] rfl)
set_option maxRecDepth 20000 in
set_option maxHeartbeats 4000000 in
theorem kX1_forget (l : Launch) {G : gG} {σ : Mem} {σ' : Mem} {o : Nat} (ho : gsh G o = some 1)  (hf : fX1_forget σ o = some σ') : CM l yX1_forget cX1_forget 1 none 0 0 G σ [.ref (gad G o 0)] none σ' := by
  refine CM.of (by decide) (Nat.le_of_ble_eq_true rfl) (fun p e s m below meth c ls X hH hl => ?_)
  have X : gX p s m _ meth c yX1_forget cX1_forget 1 none RX1 G := X
  have hS : va_S (gAA G) s.heap s.heap [] := va_S.rf
  have hl : lv_has ls 1 [(0, .ref (gad G o 0))] := hl
  rw [fX1_forget.eq_1] at hf
  refine lv_aload_n X.hx X.hb dX1_forget_0 rfl (lv_at hl 0 rfl) ?_
  refine lv_bipush (v := 10) X.hx X.hb dX1_forget_1 (by decide) ?_
  refine pfX1_33 X hH hS ho  dX1_forget_3 (fun H locs hH hS => ?_)
  obtain ⟨σ6, he, hf⟩ := stp_e hf
  rw [← he] at hH
  clear he
  refine lv_aload_n X.hx X.hb dX1_forget_6 rfl (lv_at hl 0 rfl) ?_
  refine lv_iconst (v := 2) X.hx X.hb dX1_forget_7 (by decide) ?_
  refine pfX1_37 X hH hS ho  dX1_forget_8 (fun H locs hH hS => ?_)
  obtain ⟨σ7, he, hf⟩ := stp_e hf
  rw [← he] at hH
  clear he
  refine lv_aload_n X.hx X.hb dX1_forget_11 rfl (lv_at hl 0 rfl) ?_
  refine lv_iconst (v := 1) X.hx X.hb dX1_forget_12 (by decide) ?_
  refine pfX1_40 X hH hS ho  dX1_forget_13 (fun H locs hH hS => ?_)
  obtain ⟨σ8, he, hf⟩ := stp_e hf
  rw [← he] at hH
  clear he
  refine lv_aload_n X.hx X.hb dX1_forget_16 rfl (lv_at hl 0 rfl) ?_
  refine lv_iconst (v := 0) X.hx X.hb dX1_forget_17 (by decide) ?_
  refine pfX1_43 X hH hS ho  dX1_forget_18 (fun H locs hH hS => ?_)
  obtain ⟨σ9, he, hf⟩ := stp_e hf
  rw [← he] at hH
  clear he
  refine lv_aload_n X.hx X.hb dX1_forget_21 rfl (lv_at hl 0 rfl) ?_
  refine lv_iconst (v := 0) X.hx X.hb dX1_forget_22 (by decide) ?_
  refine pfX1_46 X hH hS ho  dX1_forget_23 (fun H locs hH hS => ?_)
  obtain ⟨σ10, he, hf⟩ := stp_e hf
  rw [← he] at hH
  clear he
  have e := so1 hf
  rw [e] at hH
  exact g_vret X hH hS rfl dX1_forget_26
set_option maxRecDepth 20000 in
set_option maxHeartbeats 4000000 in
theorem bX1_addTraveller_76 {p : Program} {l : Launch} {e : Env} {s : State} {m : MethodId} {args : Array Value} {below : List Frame} {meth : Method} {c : Code} {G : gG} (X : gX p s m args meth c yX1_addTraveller cX1_addTraveller 4 none RX1 G) {o : Nat} (ho : gsh G o = some 1)  {σ' : Mem} : (∀ (σ : Mem) (x3 : Int32), fX1_addTraveller_76 o σ x3 = some σ' → ∀ (H : Heap) (locs : List Loc) (ls : Array Slot), gH G σ H → va_S (gAA G) s.heap H locs → lv_has ls 4 [(0, .ref (gad G o 0)), (3, .int x3)] → WB p l e 0 0 s m args below meth c G none σ' H locs (F0 m 76 ls [])) := by
  intro σ x3 hf H locs ls hH hS hl
  rw [fX1_addTraveller_76.eq_1] at hf
  refine lv_aload_n X.hx X.hb dX1_addTraveller_76 rfl (lv_at hl 0 rfl) ?_
  refine gfX1_18 X hH ho dX1_addTraveller_77 ?_
  refine lv_iload_n X.hx X.hb dX1_addTraveller_80 rfl (lv_at hl 1 rfl) ?_
  refine lv_aload_n X.hx X.hb dX1_addTraveller_81 rfl (lv_at hl 0 rfl) ?_
  refine gfX1_43 X hH ho dX1_addTraveller_82 ?_
  obtain ⟨hg, hf⟩ := gd_e hf
  refine g_iast X hH hS ⟨_, ho, rfl⟩ hg dX1_addTraveller_85 (fun H locs hH hS => ?_)
  obtain ⟨σ9, he, hf⟩ := stp_e hf
  rw [← he] at hH
  clear he
  refine lv_aload_n X.hx X.hb dX1_addTraveller_86 rfl (lv_at hl 0 rfl) ?_
  refine lv_dup X.hx X.hb dX1_addTraveller_87 rfl ?_
  refine gfX1_43 X hH ho dX1_addTraveller_88 ?_
  refine lv_iconst (v := 1) X.hx X.hb dX1_addTraveller_91 (by decide) ?_
  refine lv_iadd X.hx X.hb dX1_addTraveller_92 ?_
  refine pfX1_43 X hH hS ho  dX1_addTraveller_93 (fun H locs hH hS => ?_)
  obtain ⟨σ10, he, hf⟩ := stp_e hf
  rw [← he] at hH
  clear he
  have e := so1 hf
  rw [e] at hH
  exact g_vret X hH hS rfl dX1_addTraveller_96
set_option maxRecDepth 20000 in
set_option maxHeartbeats 4000000 in
theorem bX1_addTraveller_35 {p : Program} {l : Launch} {e : Env} {s : State} {m : MethodId} {args : Array Value} {below : List Frame} {meth : Method} {c : Code} {G : gG} (X : gX p s m args meth c yX1_addTraveller cX1_addTraveller 4 none RX1 G) {o : Nat} (ho : gsh G o = some 1)  {σ' : Mem} : (∀ (n : Nat) (σ : Mem) (x1 : Int32) (x3 : Int32), fX1_addTraveller_35 o n σ x1 x3 = some σ' → ∀ (H : Heap) (locs : List Loc) (ls : Array Slot), gH G σ H → va_S (gAA G) s.heap H locs → lv_has ls 4 [(0, .ref (gad G o 0)), (1, .int x1), (3, .int x3)] → WB p l e 0 0 s m args below meth c G none σ' H locs (F0 m 35 ls [])) := by
  intro n
  induction n with
  | zero => intro σ x1 x3 hf H locs ls hH hS hl; exact nomatch (show (none : Option Mem) = some _ from hf)
  | succ n ih =>
    intro σ x1 x3 hf H locs ls hH hS hl
    rw [fX1_addTraveller_35.eq_2] at hf
    refine lv_iload_n X.hx X.hb dX1_addTraveller_35 rfl (lv_at hl 2 rfl) ?_
    refine lv_if_le (tgt := 76) X.hx X.hb dX1_addTraveller_36 (by decide) (fun c11 => ?_) (fun c11 => ?_)
    · have hf := it_p hf c11
      exact bX1_addTraveller_76 X  ho   _ _  hf _ _ _ hH hS (lv_sub hl [0, 2] rfl)
    · have hf := it_n hf c11
      refine lv_aload_n X.hx X.hb dX1_addTraveller_39 rfl (lv_at hl 0 rfl) ?_
      refine gfX1_9 X hH ho dX1_addTraveller_40 ?_
      refine lv_aload_n X.hx X.hb dX1_addTraveller_43 rfl (lv_at hl 0 rfl) ?_
      refine gfX1_18 X hH ho dX1_addTraveller_44 ?_
      refine lv_iload_n X.hx X.hb dX1_addTraveller_47 rfl (lv_at hl 2 rfl) ?_
      refine lv_iconst (v := 1) X.hx X.hb dX1_addTraveller_48 (by decide) ?_
      refine lv_isub X.hx X.hb dX1_addTraveller_49 ?_
      obtain ⟨hg, hf⟩ := gd_e hf
      refine g_iald X hH ⟨_, ho, rfl⟩ hg dX1_addTraveller_50 ?_
      obtain ⟨hg, hf⟩ := gd_e hf
      refine g_iald X hH ⟨_, ho, rfl⟩ hg dX1_addTraveller_51 ?_
      refine lv_iload_n X.hx X.hb dX1_addTraveller_52 rfl (lv_at hl 1 rfl) ?_
      refine lv_icmp_le (tgt := 76) X.hx X.hb dX1_addTraveller_53 (by decide) (fun c12 => ?_) (fun c12 => ?_)
      · have hf := it_p hf c12
        exact bX1_addTraveller_76 X  ho   _ _  hf _ _ _ hH hS (lv_sub hl [0, 2] rfl)
      · have hf := it_n hf c12
        refine lv_aload_n X.hx X.hb dX1_addTraveller_56 rfl (lv_at hl 0 rfl) ?_
        refine gfX1_18 X hH ho dX1_addTraveller_57 ?_
        refine lv_iload_n X.hx X.hb dX1_addTraveller_60 rfl (lv_at hl 2 rfl) ?_
        refine lv_aload_n X.hx X.hb dX1_addTraveller_61 rfl (lv_at hl 0 rfl) ?_
        refine gfX1_18 X hH ho dX1_addTraveller_62 ?_
        refine lv_iload_n X.hx X.hb dX1_addTraveller_65 rfl (lv_at hl 2 rfl) ?_
        refine lv_iconst (v := 1) X.hx X.hb dX1_addTraveller_66 (by decide) ?_
        refine lv_isub X.hx X.hb dX1_addTraveller_67 ?_
        obtain ⟨hg, hf⟩ := gd_e hf
        refine g_iald X hH ⟨_, ho, rfl⟩ hg dX1_addTraveller_68 ?_
        obtain ⟨hg, hf⟩ := gd_e hf
        refine g_iast X hH hS ⟨_, ho, rfl⟩ hg dX1_addTraveller_69 (fun H locs hH hS => ?_)
        obtain ⟨σ13, he, hf⟩ := stp_e hf
        rw [← he] at hH
        clear he
        refine lv_iinc (v := x3 + (-1)) (lv' := [(3, .int (x3 + (-1))), (0, .ref (gad G o 0)), (1, .int x1)]) X.hx X.hb dX1_addTraveller_70 hl (k := 2) rfl rfl (by decide) rfl (fun ls hl => ?_)
        refine lv_goto (tgt := 35) X.hx X.hb dX1_addTraveller_73 (by decide) ?_
        exact ih _ _ _  hf _ _ _ hH hS (lv_sub hl [1, 2, 0] rfl)
set_option maxRecDepth 20000 in
set_option maxHeartbeats 4000000 in
theorem kX1_addTraveller (l : Launch) {G : gG} {σ : Mem} {σ' : Mem} {o : Nat} {x1 : Int32} {x2 : Int32} (ho : gsh G o = some 1)  (hf : fX1_addTraveller σ o x1 x2 = some σ') : CM l yX1_addTraveller cX1_addTraveller 4 none 0 0 G σ [.ref (gad G o 0), .int x1, .int x2] none σ' := by
  refine CM.of (by decide) (Nat.le_of_ble_eq_true rfl) (fun p e s m below meth c ls X hH hl => ?_)
  have X : gX p s m _ meth c yX1_addTraveller cX1_addTraveller 4 none RX1 G := X
  have hS : va_S (gAA G) s.heap s.heap [] := va_S.rf
  have hl : lv_has ls 4 [(0, .ref (gad G o 0)), (1, .int x1), (2, .int x2)] := hl
  rw [fX1_addTraveller.eq_1] at hf
  refine lv_aload_n X.hx X.hb dX1_addTraveller_0 rfl (lv_at hl 0 rfl) ?_
  refine gfX1_43 X hH ho dX1_addTraveller_1 ?_
  refine lv_bipush (v := 6) X.hx X.hb dX1_addTraveller_4 (by decide) ?_
  refine lv_icmp_lt (tgt := 10) X.hx X.hb dX1_addTraveller_6 (by decide) (fun c14 => ?_) (fun c14 => ?_)
  · have hf := it_p hf c14
    refine lv_aload_n X.hx X.hb dX1_addTraveller_10 rfl (lv_at hl 0 rfl) ?_
    refine gfX1_9 X hH ho dX1_addTraveller_11 ?_
    refine lv_aload_n X.hx X.hb dX1_addTraveller_14 rfl (lv_at hl 0 rfl) ?_
    refine gfX1_43 X hH ho dX1_addTraveller_15 ?_
    refine lv_iload_n X.hx X.hb dX1_addTraveller_18 rfl (lv_at hl 1 rfl) ?_
    obtain ⟨hg, hf⟩ := gd_e hf
    refine g_iast X hH hS ⟨_, ho, rfl⟩ hg dX1_addTraveller_19 (fun H locs hH hS => ?_)
    obtain ⟨σ15, he, hf⟩ := stp_e hf
    rw [← he] at hH
    clear he
    refine lv_aload_n X.hx X.hb dX1_addTraveller_20 rfl (lv_at hl 0 rfl) ?_
    refine gfX1_15 X hH ho dX1_addTraveller_21 ?_
    refine lv_aload_n X.hx X.hb dX1_addTraveller_24 rfl (lv_at hl 0 rfl) ?_
    refine gfX1_43 X hH ho dX1_addTraveller_25 ?_
    refine lv_iload_n X.hx X.hb dX1_addTraveller_28 rfl (lv_at hl 2 rfl) ?_
    obtain ⟨hg, hf⟩ := gd_e hf
    refine g_iast X hH hS ⟨_, ho, rfl⟩ hg dX1_addTraveller_29 (fun H locs hH hS => ?_)
    obtain ⟨σ16, he, hf⟩ := stp_e hf
    rw [← he] at hH
    clear he
    refine lv_aload_n X.hx X.hb dX1_addTraveller_30 rfl (lv_at hl 0 rfl) ?_
    refine gfX1_43 X hH ho dX1_addTraveller_31 ?_
    refine lv_istore_n (lv' := [(3, .int (mI σ16 o 3)), (0, .ref (gad G o 0)), (1, .int x1), (2, .int x2)]) X.hx X.hb dX1_addTraveller_34 rfl hl (by decide) rfl (fun ls hl => ?_)
    exact bX1_addTraveller_35 X  ho  _ _ _ _  hf _ _ _ hH hS (lv_sub hl [1, 2, 0] rfl)
  · have hf := it_n hf c14
    have e := so1 hf
    rw [e] at hH
    exact g_vret X hH hS rfl dX1_addTraveller_9
set_option maxRecDepth 20000 in
set_option maxHeartbeats 4000000 in
theorem kX1_addClerk (l : Launch) {G : gG} {σ : Mem} {σ' : Mem} {o : Nat} {x1 : Int32} {x2 : Int32} {x3 : Int32} (ho : gsh G o = some 1)  (hf : fX1_addClerk σ o x1 x2 x3 = some σ') : CM l yX1_addClerk cX1_addClerk 4 none 0 0 G σ [.ref (gad G o 0), .int x1, .int x2, .int x3] none σ' := by
  refine CM.of (by decide) (Nat.le_of_ble_eq_true rfl) (fun p e s m below meth c ls X hH hl => ?_)
  have X : gX p s m _ meth c yX1_addClerk cX1_addClerk 4 none RX1 G := X
  have hS : va_S (gAA G) s.heap s.heap [] := va_S.rf
  have hl : lv_has ls 4 [(0, .ref (gad G o 0)), (1, .int x1), (2, .int x2), (3, .int x3)] := hl
  rw [fX1_addClerk.eq_1] at hf
  refine lv_aload_n X.hx X.hb dX1_addClerk_0 rfl (lv_at hl 0 rfl) ?_
  refine gfX1_46 X hH ho dX1_addClerk_1 ?_
  refine lv_iconst (v := 4) X.hx X.hb dX1_addClerk_4 (by decide) ?_
  refine lv_icmp_lt (tgt := 9) X.hx X.hb dX1_addClerk_5 (by decide) (fun c6 => ?_) (fun c6 => ?_)
  · have hf := it_p hf c6
    refine lv_aload_n X.hx X.hb dX1_addClerk_9 rfl (lv_at hl 0 rfl) ?_
    refine gfX1_21 X hH ho dX1_addClerk_10 ?_
    refine lv_aload_n X.hx X.hb dX1_addClerk_13 rfl (lv_at hl 0 rfl) ?_
    refine gfX1_46 X hH ho dX1_addClerk_14 ?_
    refine lv_iload_n X.hx X.hb dX1_addClerk_17 rfl (lv_at hl 1 rfl) ?_
    obtain ⟨hg, hf⟩ := gd_e hf
    refine g_iast X hH hS ⟨_, ho, rfl⟩ hg dX1_addClerk_18 (fun H locs hH hS => ?_)
    obtain ⟨σ7, he, hf⟩ := stp_e hf
    rw [← he] at hH
    clear he
    refine lv_aload_n X.hx X.hb dX1_addClerk_19 rfl (lv_at hl 0 rfl) ?_
    refine gfX1_24 X hH ho dX1_addClerk_20 ?_
    refine lv_aload_n X.hx X.hb dX1_addClerk_23 rfl (lv_at hl 0 rfl) ?_
    refine gfX1_46 X hH ho dX1_addClerk_24 ?_
    refine lv_iload_n X.hx X.hb dX1_addClerk_27 rfl (lv_at hl 2 rfl) ?_
    obtain ⟨hg, hf⟩ := gd_e hf
    refine g_iast X hH hS ⟨_, ho, rfl⟩ hg dX1_addClerk_28 (fun H locs hH hS => ?_)
    obtain ⟨σ8, he, hf⟩ := stp_e hf
    rw [← he] at hH
    clear he
    refine lv_aload_n X.hx X.hb dX1_addClerk_29 rfl (lv_at hl 0 rfl) ?_
    refine gfX1_27 X hH ho dX1_addClerk_30 ?_
    refine lv_aload_n X.hx X.hb dX1_addClerk_33 rfl (lv_at hl 0 rfl) ?_
    refine gfX1_46 X hH ho dX1_addClerk_34 ?_
    refine lv_iload_n X.hx X.hb dX1_addClerk_37 rfl (lv_at hl 3 rfl) ?_
    obtain ⟨hg, hf⟩ := gd_e hf
    refine g_iast X hH hS ⟨_, ho, rfl⟩ hg dX1_addClerk_38 (fun H locs hH hS => ?_)
    obtain ⟨σ9, he, hf⟩ := stp_e hf
    rw [← he] at hH
    clear he
    refine lv_aload_n X.hx X.hb dX1_addClerk_39 rfl (lv_at hl 0 rfl) ?_
    refine lv_dup X.hx X.hb dX1_addClerk_40 rfl ?_
    refine gfX1_46 X hH ho dX1_addClerk_41 ?_
    refine lv_iconst (v := 1) X.hx X.hb dX1_addClerk_44 (by decide) ?_
    refine lv_iadd X.hx X.hb dX1_addClerk_45 ?_
    refine pfX1_46 X hH hS ho  dX1_addClerk_46 (fun H locs hH hS => ?_)
    obtain ⟨σ10, he, hf⟩ := stp_e hf
    rw [← he] at hH
    clear he
    have e := so1 hf
    rw [e] at hH
    exact g_vret X hH hS rfl dX1_addClerk_49
  · have hf := it_n hf c6
    have e := so1 hf
    rw [e] at hH
    exact g_vret X hH hS rfl dX1_addClerk_8
set_option maxRecDepth 20000 in
set_option maxHeartbeats 4000000 in
theorem kX1_hasTraveller (l : Launch) {G : gG} {σ : Mem} {r : Int32} {o : Nat} {x1 : Int32} (ho : gsh G o = some 1)  (hf : fX1_hasTraveller σ o x1 = some r) : CM l yX1_hasTraveller cX1_hasTraveller 2 (some .boolean) 0 0 G σ [.ref (gad G o 0), .int x1] (some (.int r)) σ := by
  refine CM.of (by decide) (Nat.le_of_ble_eq_true rfl) (fun p e s m below meth c ls X hH hl => ?_)
  have X : gX p s m _ meth c yX1_hasTraveller cX1_hasTraveller 2 (some .boolean) RX1 G := X
  have hS : va_S (gAA G) s.heap s.heap [] := va_S.rf
  have hl : lv_has ls 2 [(0, .ref (gad G o 0)), (1, .int x1)] := hl
  rw [fX1_hasTraveller.eq_1] at hf
  refine lv_iload_n X.hx X.hb dX1_hasTraveller_0 rfl (lv_at hl 1 rfl) ?_
  refine lv_if_lt (tgt := 16) X.hx X.hb dX1_hasTraveller_1 (by decide) (fun c3 => ?_) (fun c3 => ?_)
  · have hf := it_p hf c3
    refine lv_iconst (v := 0) X.hx X.hb dX1_hasTraveller_16 (by decide) ?_
    exact g_zret X hH hS rfl (so1 hf) (by decide) dX1_hasTraveller_17
  · have hf := it_n hf c3
    refine lv_iload_n X.hx X.hb dX1_hasTraveller_4 rfl (lv_at hl 1 rfl) ?_
    refine lv_aload_n X.hx X.hb dX1_hasTraveller_5 rfl (lv_at hl 0 rfl) ?_
    refine gfX1_43 X hH ho dX1_hasTraveller_6 ?_
    refine lv_icmp_ge (tgt := 16) X.hx X.hb dX1_hasTraveller_9 (by decide) (fun c4 => ?_) (fun c4 => ?_)
    · have hf := it_p hf c4
      refine lv_iconst (v := 0) X.hx X.hb dX1_hasTraveller_16 (by decide) ?_
      exact g_zret X hH hS rfl (so1 hf) (by decide) dX1_hasTraveller_17
    · have hf := it_n hf c4
      refine lv_iconst (v := 1) X.hx X.hb dX1_hasTraveller_12 (by decide) ?_
      refine lv_goto (tgt := 17) X.hx X.hb dX1_hasTraveller_13 (by decide) ?_
      exact g_zret X hH hS rfl (so1 hf) (by decide) dX1_hasTraveller_17
set_option maxRecDepth 20000 in
set_option maxHeartbeats 4000000 in
theorem kX1_hasClerk (l : Launch) {G : gG} {σ : Mem} {r : Int32} {o : Nat} {x1 : Int32} (ho : gsh G o = some 1)  (hf : fX1_hasClerk σ o x1 = some r) : CM l yX1_hasClerk cX1_hasClerk 2 (some .boolean) 0 0 G σ [.ref (gad G o 0), .int x1] (some (.int r)) σ := by
  refine CM.of (by decide) (Nat.le_of_ble_eq_true rfl) (fun p e s m below meth c ls X hH hl => ?_)
  have X : gX p s m _ meth c yX1_hasClerk cX1_hasClerk 2 (some .boolean) RX1 G := X
  have hS : va_S (gAA G) s.heap s.heap [] := va_S.rf
  have hl : lv_has ls 2 [(0, .ref (gad G o 0)), (1, .int x1)] := hl
  rw [fX1_hasClerk.eq_1] at hf
  refine lv_iload_n X.hx X.hb dX1_hasClerk_0 rfl (lv_at hl 1 rfl) ?_
  refine lv_if_lt (tgt := 16) X.hx X.hb dX1_hasClerk_1 (by decide) (fun c3 => ?_) (fun c3 => ?_)
  · have hf := it_p hf c3
    refine lv_iconst (v := 0) X.hx X.hb dX1_hasClerk_16 (by decide) ?_
    exact g_zret X hH hS rfl (so1 hf) (by decide) dX1_hasClerk_17
  · have hf := it_n hf c3
    refine lv_iload_n X.hx X.hb dX1_hasClerk_4 rfl (lv_at hl 1 rfl) ?_
    refine lv_aload_n X.hx X.hb dX1_hasClerk_5 rfl (lv_at hl 0 rfl) ?_
    refine gfX1_46 X hH ho dX1_hasClerk_6 ?_
    refine lv_icmp_ge (tgt := 16) X.hx X.hb dX1_hasClerk_9 (by decide) (fun c4 => ?_) (fun c4 => ?_)
    · have hf := it_p hf c4
      refine lv_iconst (v := 0) X.hx X.hb dX1_hasClerk_16 (by decide) ?_
      exact g_zret X hH hS rfl (so1 hf) (by decide) dX1_hasClerk_17
    · have hf := it_n hf c4
      refine lv_iconst (v := 1) X.hx X.hb dX1_hasClerk_12 (by decide) ?_
      refine lv_goto (tgt := 17) X.hx X.hb dX1_hasClerk_13 (by decide) ?_
      exact g_zret X hH hS rfl (so1 hf) (by decide) dX1_hasClerk_17
set_option maxRecDepth 20000 in
set_option maxHeartbeats 4000000 in
theorem kX1_hasRow (l : Launch) {G : gG} {σ : Mem} {r : Int32} {o : Nat} {x1 : Int32} (ho : gsh G o = some 1)  (hf : fX1_hasRow σ o x1 = some r) : CM l yX1_hasRow cX1_hasRow 2 (some .boolean) 0 0 G σ [.ref (gad G o 0), .int x1] (some (.int r)) σ := by
  refine CM.of (by decide) (Nat.le_of_ble_eq_true rfl) (fun p e s m below meth c ls X hH hl => ?_)
  have X : gX p s m _ meth c yX1_hasRow cX1_hasRow 2 (some .boolean) RX1 G := X
  have hS : va_S (gAA G) s.heap s.heap [] := va_S.rf
  have hl : lv_has ls 2 [(0, .ref (gad G o 0)), (1, .int x1)] := hl
  rw [fX1_hasRow.eq_1] at hf
  refine lv_iload_n X.hx X.hb dX1_hasRow_0 rfl (lv_at hl 1 rfl) ?_
  refine lv_if_lt (tgt := 16) X.hx X.hb dX1_hasRow_1 (by decide) (fun c3 => ?_) (fun c3 => ?_)
  · have hf := it_p hf c3
    refine lv_iconst (v := 0) X.hx X.hb dX1_hasRow_16 (by decide) ?_
    exact g_zret X hH hS rfl (so1 hf) (by decide) dX1_hasRow_17
  · have hf := it_n hf c3
    refine lv_iload_n X.hx X.hb dX1_hasRow_4 rfl (lv_at hl 1 rfl) ?_
    refine lv_aload_n X.hx X.hb dX1_hasRow_5 rfl (lv_at hl 0 rfl) ?_
    refine gfX1_37 X hH ho dX1_hasRow_6 ?_
    refine lv_icmp_ge (tgt := 16) X.hx X.hb dX1_hasRow_9 (by decide) (fun c4 => ?_) (fun c4 => ?_)
    · have hf := it_p hf c4
      refine lv_iconst (v := 0) X.hx X.hb dX1_hasRow_16 (by decide) ?_
      exact g_zret X hH hS rfl (so1 hf) (by decide) dX1_hasRow_17
    · have hf := it_n hf c4
      refine lv_iconst (v := 1) X.hx X.hb dX1_hasRow_12 (by decide) ?_
      refine lv_goto (tgt := 17) X.hx X.hb dX1_hasRow_13 (by decide) ?_
      exact g_zret X hH hS rfl (so1 hf) (by decide) dX1_hasRow_17
set_option maxRecDepth 20000 in
set_option maxHeartbeats 4000000 in
theorem kX1_boatSailsOn (l : Launch) {G : gG} {σ : Mem} {r : Int32} {o : Nat} {x1 : Int32} (ho : gsh G o = some 1)  (hf : fX1_boatSailsOn σ o x1 = some r) : CM l yX1_boatSailsOn cX1_boatSailsOn 2 (some .boolean) 0 0 G σ [.ref (gad G o 0), .int x1] (some (.int r)) σ := by
  refine CM.of (by decide) (Nat.le_of_ble_eq_true rfl) (fun p e s m below meth c ls X hH hl => ?_)
  have X : gX p s m _ meth c yX1_boatSailsOn cX1_boatSailsOn 2 (some .boolean) RX1 G := X
  have hS : va_S (gAA G) s.heap s.heap [] := va_S.rf
  have hl : lv_has ls 2 [(0, .ref (gad G o 0)), (1, .int x1)] := hl
  rw [fX1_boatSailsOn.eq_1] at hf
  refine lv_aload_n X.hx X.hb dX1_boatSailsOn_0 rfl (lv_at hl 0 rfl) ?_
  refine gfX1_40 X hH ho dX1_boatSailsOn_1 ?_
  refine lv_if_le (tgt := 20) X.hx X.hb dX1_boatSailsOn_4 (by decide) (fun c3 => ?_) (fun c3 => ?_)
  · have hf := it_p hf c3
    refine lv_iconst (v := 0) X.hx X.hb dX1_boatSailsOn_20 (by decide) ?_
    exact g_zret X hH hS rfl (so1 hf) (by decide) dX1_boatSailsOn_21
  · have hf := it_n hf c3
    refine lv_iload_n X.hx X.hb dX1_boatSailsOn_7 rfl (lv_at hl 1 rfl) ?_
    refine lv_aload_n X.hx X.hb dX1_boatSailsOn_8 rfl (lv_at hl 0 rfl) ?_
    refine gfX1_40 X hH ho dX1_boatSailsOn_9 ?_
    obtain ⟨hg, hf⟩ := gd_e hf
    refine lv_irem X.hx X.hb dX1_boatSailsOn_12 (of_decide_eq_true hg) ?_
    refine lv_if_ne (tgt := 20) X.hx X.hb dX1_boatSailsOn_13 (by decide) (fun c4 => ?_) (fun c4 => ?_)
    · have hf := it_n hf c4
      refine lv_iconst (v := 0) X.hx X.hb dX1_boatSailsOn_20 (by decide) ?_
      exact g_zret X hH hS rfl (so1 hf) (by decide) dX1_boatSailsOn_21
    · have hf := it_p hf c4
      refine lv_iconst (v := 1) X.hx X.hb dX1_boatSailsOn_16 (by decide) ?_
      refine lv_goto (tgt := 21) X.hx X.hb dX1_boatSailsOn_17 (by decide) ?_
      exact g_zret X hH hS rfl (so1 hf) (by decide) dX1_boatSailsOn_21
set_option maxRecDepth 20000 in
set_option maxHeartbeats 4000000 in
theorem kX1_boatFrom (l : Launch) {G : gG} {σ : Mem} {r : Int32} {o : Nat} {x1 : Int32} (ho : gsh G o = some 1)  (hf : fX1_boatFrom σ o x1 = some r) : CM l yX1_boatFrom cX1_boatFrom 2 (some .int) 0 0 G σ [.ref (gad G o 0), .int x1] (some (.int r)) σ := by
  refine CM.of (by decide) (Nat.le_of_ble_eq_true rfl) (fun p e s m below meth c ls X hH hl => ?_)
  have X : gX p s m _ meth c yX1_boatFrom cX1_boatFrom 2 (some .int) RX1 G := X
  have hS : va_S (gAA G) s.heap s.heap [] := va_S.rf
  have hl : lv_has ls 2 [(0, .ref (gad G o 0)), (1, .int x1)] := hl
  rw [fX1_boatFrom.eq_1] at hf
  refine lv_aload_n X.hx X.hb dX1_boatFrom_0 rfl (lv_at hl 0 rfl) ?_
  refine gfX1_40 X hH ho dX1_boatFrom_1 ?_
  refine lv_if_le (tgt := 28) X.hx X.hb dX1_boatFrom_4 (by decide) (fun c2 => ?_) (fun c2 => ?_)
  · have hf := it_p hf c2
    refine lv_iload_n X.hx X.hb dX1_boatFrom_28 rfl (lv_at hl 1 rfl) ?_
    exact g_iret X hH hS rfl (so1 hf) dX1_boatFrom_29
  · have hf := it_n hf c2
    refine lv_iload_n X.hx X.hb dX1_boatFrom_7 rfl (lv_at hl 1 rfl) ?_
    refine lv_aload_n X.hx X.hb dX1_boatFrom_8 rfl (lv_at hl 0 rfl) ?_
    refine gfX1_40 X hH ho dX1_boatFrom_9 ?_
    refine lv_iadd X.hx X.hb dX1_boatFrom_12 ?_
    refine lv_iconst (v := 1) X.hx X.hb dX1_boatFrom_13 (by decide) ?_
    refine lv_isub X.hx X.hb dX1_boatFrom_14 ?_
    refine lv_aload_n X.hx X.hb dX1_boatFrom_15 rfl (lv_at hl 0 rfl) ?_
    refine gfX1_40 X hH ho dX1_boatFrom_16 ?_
    obtain ⟨hg, hf⟩ := gd_e hf
    refine lv_idiv X.hx X.hb dX1_boatFrom_19 (of_decide_eq_true hg) ?_
    refine lv_aload_n X.hx X.hb dX1_boatFrom_20 rfl (lv_at hl 0 rfl) ?_
    refine gfX1_40 X hH ho dX1_boatFrom_21 ?_
    refine lv_imul X.hx X.hb dX1_boatFrom_24 ?_
    refine lv_goto (tgt := 29) X.hx X.hb dX1_boatFrom_25 (by decide) ?_
    exact g_iret X hH hS rfl (so1 hf) dX1_boatFrom_29
set_option maxRecDepth 20000 in
set_option maxHeartbeats 4000000 in
theorem kX1_copied (l : Launch) {G : gG} {σ : Mem} {r : Int32} {o : Nat} {x1 : Int32} {x2 : Int32} (ho : gsh G o = some 1)  (hf : fX1_copied σ o x1 x2 = some r) : CM l yX1_copied cX1_copied 3 (some .int) 0 0 G σ [.ref (gad G o 0), .int x1, .int x2] (some (.int r)) σ := by
  refine CM.of (by decide) (Nat.le_of_ble_eq_true rfl) (fun p e s m below meth c ls X hH hl => ?_)
  have X : gX p s m _ meth c yX1_copied cX1_copied 3 (some .int) RX1 G := X
  have hS : va_S (gAA G) s.heap s.heap [] := va_S.rf
  have hl : lv_has ls 3 [(0, .ref (gad G o 0)), (1, .int x1), (2, .int x2)] := hl
  rw [fX1_copied.eq_1] at hf
  refine lv_iload_n X.hx X.hb dX1_copied_0 rfl (lv_at hl 1 rfl) ?_
  refine lv_bipush (v := 10) X.hx X.hb dX1_copied_1 (by decide) ?_
  refine lv_icmp_ge (tgt := 19) X.hx X.hb dX1_copied_3 (by decide) (fun c4 => ?_) (fun c4 => ?_)
  · have hf := it_p hf c4
    refine lv_bipush (v := 10) X.hx X.hb dX1_copied_19 (by decide) ?_
    exact g_iret X hH hS rfl (so1 hf) dX1_copied_21
  · have hf := it_n hf c4
    refine lv_aload_n X.hx X.hb dX1_copied_6 rfl (lv_at hl 0 rfl) ?_
    refine gfX1_21 X hH ho dX1_copied_7 ?_
    refine lv_iload_n X.hx X.hb dX1_copied_10 rfl (lv_at hl 2 rfl) ?_
    obtain ⟨hg, hf⟩ := gd_e hf
    refine g_iald X hH ⟨_, ho, rfl⟩ hg dX1_copied_11 ?_
    refine lv_iload_n X.hx X.hb dX1_copied_12 rfl (lv_at hl 1 rfl) ?_
    refine lv_ishr X.hx X.hb dX1_copied_13 ?_
    refine lv_iconst (v := 1) X.hx X.hb dX1_copied_14 (by decide) ?_
    refine lv_iand X.hx X.hb dX1_copied_15 ?_
    refine lv_if_eq (tgt := 22) X.hx X.hb dX1_copied_16 (by decide) (fun c5 => ?_) (fun c5 => ?_)
    · have hf := it_p hf c5
      refine lv_iload_n X.hx X.hb dX1_copied_22 rfl (lv_at hl 1 rfl) ?_
      refine lv_aload_n X.hx X.hb dX1_copied_23 rfl (lv_at hl 0 rfl) ?_
      refine gfX1_24 X hH ho dX1_copied_24 ?_
      refine lv_iload_n X.hx X.hb dX1_copied_27 rfl (lv_at hl 2 rfl) ?_
      obtain ⟨hg, hf⟩ := gd_e hf
      refine g_iald X hH ⟨_, ho, rfl⟩ hg dX1_copied_28 ?_
      refine lv_icmp_ne (tgt := 41) X.hx X.hb dX1_copied_29 (by decide) (fun c6 => ?_) (fun c6 => ?_)
      · have hf := it_n hf c6
        refine lv_iload_n X.hx X.hb dX1_copied_41 rfl (lv_at hl 1 rfl) ?_
        exact g_iret X hH hS rfl (so1 hf) dX1_copied_42
      · have hf := it_p hf c6
        refine lv_aload_n X.hx X.hb dX1_copied_32 rfl (lv_at hl 0 rfl) ?_
        refine gfX1_27 X hH ho dX1_copied_33 ?_
        refine lv_iload_n X.hx X.hb dX1_copied_36 rfl (lv_at hl 2 rfl) ?_
        obtain ⟨hg, hf⟩ := gd_e hf
        refine g_iald X hH ⟨_, ho, rfl⟩ hg dX1_copied_37 ?_
        refine lv_goto (tgt := 42) X.hx X.hb dX1_copied_38 (by decide) ?_
        exact g_iret X hH hS rfl (so1 hf) dX1_copied_42
    · have hf := it_n hf c5
      refine lv_bipush (v := 10) X.hx X.hb dX1_copied_19 (by decide) ?_
      exact g_iret X hH hS rfl (so1 hf) dX1_copied_21
set_option maxRecDepth 20000 in
set_option maxHeartbeats 4000000 in
theorem bX1_copiedFrom_5 {p : Program} {l : Launch} {e : Env} {s : State} {m : MethodId} {args : Array Value} {below : List Frame} {meth : Method} {c : Code} {G : gG} (X : gX p s m args meth c yX1_copiedFrom cX1_copiedFrom 5 (some .int) RX1 G) {o : Nat} (ho : gsh G o = some 1)  {σ : Mem} {r : Int32} : (∀ (n : Nat) (x1 : Int32) (x2 : Int32) (x3 : Int32) (x4 : Int32), fX1_copiedFrom_5 σ o n x1 x2 x3 x4 = some r → ∀ (H : Heap) (locs : List Loc) (ls : Array Slot), gH G σ H → va_S (gAA G) s.heap H locs → lv_has ls 5 [(0, .ref (gad G o 0)), (1, .int x1), (2, .int x2), (3, .int x3), (4, .int x4)] → WB p l e 1 22 s m args below meth c G (some (.int r)) σ H locs (F0 m 5 ls [])) := by
  intro n
  induction n with
  | zero => intro x1 x2 x3 x4 hf H locs ls hH hS hl; exact nomatch (show (none : Option Int32) = some _ from hf)
  | succ n ih =>
    intro x1 x2 x3 x4 hf H locs ls hH hS hl
    rw [fX1_copiedFrom_5.eq_2] at hf
    refine lv_iload X.hx X.hb dX1_copiedFrom_5 (lv_at hl 4 rfl) ?_
    refine lv_bipush (v := 10) X.hx X.hb dX1_copiedFrom_7 (by decide) ?_
    refine lv_icmp_ge (tgt := 36) X.hx X.hb dX1_copiedFrom_9 (by decide) (fun c4 => ?_) (fun c4 => ?_)
    · have hf := it_p hf c4
      refine lv_iload_n X.hx X.hb dX1_copiedFrom_36 rfl (lv_at hl 3 rfl) ?_
      exact g_iret X hH hS rfl (so1 hf) dX1_copiedFrom_37
    · have hf := it_n hf c4
      refine lv_aload_n X.hx X.hb dX1_copiedFrom_12 rfl (lv_at hl 0 rfl) ?_
      refine lv_iload X.hx X.hb dX1_copiedFrom_13 (lv_at hl 4 rfl) ?_
      refine lv_iload_n X.hx X.hb dX1_copiedFrom_15 rfl (lv_at hl 2 rfl) ?_
      obtain ⟨r5, hr, hf⟩ := bd_e hf
      refine g_callVI (As := [.int x4, .int x2]) (rest := []) X (kX1_copied l ho hr) (C := RX1) (T := TX1) (N := 11) (ci := 1) rfl ho ⟨cdX1_copied, mlX1_49, imX1_copied, seX1_copied, iniX1⟩ hvX1_copied ⟨Nat.le_of_ble_eq_true rfl, Nat.le_of_ble_eq_true rfl⟩ hH hS hl rfl rfl (Nat.le_of_ble_eq_true rfl) ⟨Nat.le_refl 0, Nat.le_refl 0⟩ dX1_copiedFrom_16 (fun H locs hH hS => ?_)
      refine lv_iload_n X.hx X.hb dX1_copiedFrom_19 rfl (lv_at hl 1 rfl) ?_
      refine lv_icmp_ne (tgt := 30) X.hx X.hb dX1_copiedFrom_20 (by decide) (fun c6 => ?_) (fun c6 => ?_)
      · have hf := it_n hf c6
        refine lv_iinc (v := x4 + 1) (lv' := [(4, .int (x4 + 1)), (0, .ref (gad G o 0)), (1, .int x1), (2, .int x2), (3, .int x3)]) X.hx X.hb dX1_copiedFrom_30 hl (k := 4) rfl rfl (by decide) rfl (fun ls hl => ?_)
        refine lv_goto (tgt := 5) X.hx X.hb dX1_copiedFrom_33 (by decide) ?_
        exact ih _ _ _ _  hf _ _ _ hH hS (lv_sub hl [1, 2, 3, 4, 0] rfl)
      · have hf := it_p hf c6
        refine lv_iload_n X.hx X.hb dX1_copiedFrom_23 rfl (lv_at hl 3 rfl) ?_
        refine lv_iconst (v := 1) X.hx X.hb dX1_copiedFrom_24 (by decide) ?_
        refine lv_iload X.hx X.hb dX1_copiedFrom_25 (lv_at hl 4 rfl) ?_
        refine lv_ishl X.hx X.hb dX1_copiedFrom_27 ?_
        refine lv_ior X.hx X.hb dX1_copiedFrom_28 ?_
        refine lv_istore_n (lv' := [(3, .int (x3 ||| ((1 : Int32) <<< (x4 &&& 31)))), (0, .ref (gad G o 0)), (1, .int x1), (2, .int x2), (4, .int x4)]) X.hx X.hb dX1_copiedFrom_29 rfl hl (by decide) rfl (fun ls hl => ?_)
        refine lv_iinc (v := x4 + 1) (lv' := [(4, .int (x4 + 1)), (3, .int (x3 ||| ((1 : Int32) <<< (x4 &&& 31)))), (0, .ref (gad G o 0)), (1, .int x1), (2, .int x2)]) X.hx X.hb dX1_copiedFrom_30 hl (k := 4) rfl rfl (by decide) rfl (fun ls hl => ?_)
        refine lv_goto (tgt := 5) X.hx X.hb dX1_copiedFrom_33 (by decide) ?_
        exact ih _ _ _ _  hf _ _ _ hH hS (lv_sub hl [2, 3, 4, 1, 0] rfl)
set_option maxRecDepth 20000 in
set_option maxHeartbeats 4000000 in
theorem kX1_copiedFrom (l : Launch) {G : gG} {σ : Mem} {r : Int32} {o : Nat} {x1 : Int32} {x2 : Int32} (ho : gsh G o = some 1)  (hf : fX1_copiedFrom σ o x1 x2 = some r) : CM l yX1_copiedFrom cX1_copiedFrom 5 (some .int) 1 22 G σ [.ref (gad G o 0), .int x1, .int x2] (some (.int r)) σ := by
  refine CM.of (by decide) (Nat.le_of_ble_eq_true rfl) (fun p e s m below meth c ls X hH hl => ?_)
  have X : gX p s m _ meth c yX1_copiedFrom cX1_copiedFrom 5 (some .int) RX1 G := X
  have hS : va_S (gAA G) s.heap s.heap [] := va_S.rf
  have hl : lv_has ls 5 [(0, .ref (gad G o 0)), (1, .int x1), (2, .int x2)] := hl
  rw [fX1_copiedFrom.eq_1] at hf
  refine lv_iconst (v := 0) X.hx X.hb dX1_copiedFrom_0 (by decide) ?_
  refine lv_istore_n (lv' := [(3, .int (0 : Int32)), (0, .ref (gad G o 0)), (1, .int x1), (2, .int x2)]) X.hx X.hb dX1_copiedFrom_1 rfl hl (by decide) rfl (fun ls hl => ?_)
  refine lv_iconst (v := 0) X.hx X.hb dX1_copiedFrom_2 (by decide) ?_
  refine lv_istore (lv' := [(4, .int (0 : Int32)), (3, .int (0 : Int32)), (0, .ref (gad G o 0)), (1, .int x1), (2, .int x2)]) X.hx X.hb dX1_copiedFrom_3 hl (by decide) rfl (fun ls hl => ?_)
  exact bX1_copiedFrom_5 X  ho  _ _ _ _ _  hf _ _ _ hH hS (lv_sub hl [2, 3, 4, 1, 0] rfl)
set_option maxRecDepth 20000 in
set_option maxHeartbeats 4000000 in
theorem bX1_smoked_8 {p : Program} {l : Launch} {e : Env} {s : State} {m : MethodId} {args : Array Value} {below : List Frame} {meth : Method} {c : Code} {G : gG} (X : gX p s m args meth c yX1_smoked cX1_smoked 6 (some .int) RX1 G) {o : Nat} (ho : gsh G o = some 1)  {σ : Mem} {r : Int32} : (∀ (n : Nat) (x2 : Int32) (x3 : Int32) (x4 : Int32) (x5 : Int32), fX1_smoked_8 σ o n x2 x3 x4 x5 = some r → ∀ (H : Heap) (locs : List Loc) (ls : Array Slot), gH G σ H → va_S (gAA G) s.heap H locs → lv_has ls 6 [(0, .ref (gad G o 0)), (2, .int x2), (3, .int x3), (4, .int x4), (5, .int x5)] → WB p l e 1 22 s m args below meth c G (some (.int r)) σ H locs (F0 m 8 ls [])) := by
  intro n
  induction n with
  | zero => intro x2 x3 x4 x5 hf H locs ls hH hS hl; exact nomatch (show (none : Option Int32) = some _ from hf)
  | succ n ih =>
    intro x2 x3 x4 x5 hf H locs ls hH hS hl
    rw [fX1_smoked_8.eq_2] at hf
    refine lv_iload X.hx X.hb dX1_smoked_8 (lv_at hl 4 rfl) ?_
    refine lv_bipush (v := 11) X.hx X.hb dX1_smoked_10 (by decide) ?_
    refine lv_icmp_lt (tgt := 48) X.hx X.hb dX1_smoked_12 (by decide) (fun c3 => ?_) (fun c3 => ?_)
    · have hf := it_p hf c3
      refine lv_iload_n X.hx X.hb dX1_smoked_48 rfl (lv_at hl 2 rfl) ?_
      refine lv_iload X.hx X.hb dX1_smoked_49 (lv_at hl 3 rfl) ?_
      refine lv_iadd X.hx X.hb dX1_smoked_51 ?_
      exact g_iret X hH hS rfl (so1 hf) dX1_smoked_52
    · have hf := it_n hf c3
      refine lv_iload_n X.hx X.hb dX1_smoked_15 rfl (lv_at hl 2 rfl) ?_
      refine lv_iload X.hx X.hb dX1_smoked_16 (lv_at hl 3 rfl) ?_
      refine lv_aload_n X.hx X.hb dX1_smoked_18 rfl (lv_at hl 0 rfl) ?_
      refine lv_iload X.hx X.hb dX1_smoked_19 (lv_at hl 4 rfl) ?_
      refine lv_bipush (v := 11) X.hx X.hb dX1_smoked_21 (by decide) ?_
      refine lv_irem X.hx X.hb dX1_smoked_23 (by decide) ?_
      refine lv_iload_n X.hx X.hb dX1_smoked_24 rfl (lv_at hl 1 rfl) ?_
      obtain ⟨r4, hr, hf⟩ := bd_e hf
      refine g_callVI (As := [.int (x5 - x5 / (11 : Int32) * (11 : Int32)), .int x2]) (rest := [.int x4, .int x3]) X (kX1_copied l ho hr) (C := RX1) (T := TX1) (N := 11) (ci := 1) rfl ho ⟨cdX1_copied, mlX1_49, imX1_copied, seX1_copied, iniX1⟩ hvX1_copied ⟨Nat.le_of_ble_eq_true rfl, Nat.le_of_ble_eq_true rfl⟩ hH hS hl rfl rfl (Nat.le_of_ble_eq_true rfl) ⟨Nat.le_refl 0, Nat.le_refl 0⟩ dX1_smoked_25 (fun H locs hH hS => ?_)
      refine lv_imul X.hx X.hb dX1_smoked_28 ?_
      refine lv_iadd X.hx X.hb dX1_smoked_29 ?_
      refine lv_istore_n (lv' := [(3, .int (x3 + (x4 * r4))), (0, .ref (gad G o 0)), (2, .int x2), (4, .int x4), (5, .int x5)]) X.hx X.hb dX1_smoked_30 rfl hl (by decide) rfl (fun ls hl => ?_)
      refine lv_iload X.hx X.hb dX1_smoked_31 (lv_at hl 3 rfl) ?_
      refine lv_bipush (v := 11) X.hx X.hb dX1_smoked_33 (by decide) ?_
      refine lv_imul X.hx X.hb dX1_smoked_35 ?_
      refine lv_istore (lv' := [(4, .int (x4 * (11 : Int32))), (3, .int (x3 + (x4 * r4))), (0, .ref (gad G o 0)), (2, .int x2), (5, .int x5)]) X.hx X.hb dX1_smoked_36 hl (by decide) rfl (fun ls hl => ?_)
      refine lv_iload X.hx X.hb dX1_smoked_38 (lv_at hl 4 rfl) ?_
      refine lv_bipush (v := 11) X.hx X.hb dX1_smoked_40 (by decide) ?_
      refine lv_idiv X.hx X.hb dX1_smoked_42 (by decide) ?_
      refine lv_istore (lv' := [(5, .int (x5 / (11 : Int32))), (4, .int (x4 * (11 : Int32))), (3, .int (x3 + (x4 * r4))), (0, .ref (gad G o 0)), (2, .int x2)]) X.hx X.hb dX1_smoked_43 hl (by decide) rfl (fun ls hl => ?_)
      refine lv_goto (tgt := 8) X.hx X.hb dX1_smoked_45 (by decide) ?_
      exact ih _ _ _ _  hf _ _ _ hH hS (lv_sub hl [3, 4, 2, 1, 0] rfl)
set_option maxRecDepth 20000 in
set_option maxHeartbeats 4000000 in
theorem kX1_smoked (l : Launch) {G : gG} {σ : Mem} {r : Int32} {o : Nat} {x1 : Int32} {x2 : Int32} (ho : gsh G o = some 1)  (hf : fX1_smoked σ o x1 x2 = some r) : CM l yX1_smoked cX1_smoked 6 (some .int) 1 22 G σ [.ref (gad G o 0), .int x1, .int x2] (some (.int r)) σ := by
  refine CM.of (by decide) (Nat.le_of_ble_eq_true rfl) (fun p e s m below meth c ls X hH hl => ?_)
  have X : gX p s m _ meth c yX1_smoked cX1_smoked 6 (some .int) RX1 G := X
  have hS : va_S (gAA G) s.heap s.heap [] := va_S.rf
  have hl : lv_has ls 6 [(0, .ref (gad G o 0)), (1, .int x1), (2, .int x2)] := hl
  rw [fX1_smoked.eq_1] at hf
  refine lv_iconst (v := 0) X.hx X.hb dX1_smoked_0 (by decide) ?_
  refine lv_istore_n (lv' := [(3, .int (0 : Int32)), (0, .ref (gad G o 0)), (1, .int x1), (2, .int x2)]) X.hx X.hb dX1_smoked_1 rfl hl (by decide) rfl (fun ls hl => ?_)
  refine lv_iconst (v := 1) X.hx X.hb dX1_smoked_2 (by decide) ?_
  refine lv_istore (lv' := [(4, .int (1 : Int32)), (3, .int (0 : Int32)), (0, .ref (gad G o 0)), (1, .int x1), (2, .int x2)]) X.hx X.hb dX1_smoked_3 hl (by decide) rfl (fun ls hl => ?_)
  refine lv_iload_n X.hx X.hb dX1_smoked_5 rfl (lv_at hl 3 rfl) ?_
  refine lv_istore (lv' := [(5, .int x1), (4, .int (1 : Int32)), (3, .int (0 : Int32)), (0, .ref (gad G o 0)), (1, .int x1), (2, .int x2)]) X.hx X.hb dX1_smoked_6 hl (by decide) rfl (fun ls hl => ?_)
  exact bX1_smoked_8 X  ho  _ _ _ _ _  hf _ _ _ hH hS (lv_sub hl [3, 5, 2, 1, 0] rfl)
set_option maxRecDepth 20000 in
set_option maxHeartbeats 4000000 in
theorem kX2_beginAnew (l : Launch) {G : gG} {σ : Mem} {σ' : Mem} {o : Nat} (ho : gsh G o = some 2)  (hf : fX2_beginAnew σ o = some σ') : CM l yX2_beginAnew cX2_beginAnew 1 none 1 23 G σ [.ref (gad G o 0)] none σ' := by
  refine CM.of (by decide) (Nat.le_of_ble_eq_true rfl) (fun p e s m below meth c ls X hH hl => ?_)
  have X : gX p s m _ meth c yX2_beginAnew cX2_beginAnew 1 none RX2 G := X
  have hS : va_S (gAA G) s.heap s.heap [] := va_S.rf
  have hl : lv_has ls 1 [(0, .ref (gad G o 0))] := hl
  rw [fX2_beginAnew.eq_1] at hf
  refine lv_aload_n X.hx X.hb dX2_beginAnew_0 rfl (lv_at hl 0 rfl) ?_
  refine lv_iconst (v := 0) X.hx X.hb dX2_beginAnew_1 (by decide) ?_
  refine pfX2_21 X hH hS ho  dX2_beginAnew_2 (fun H locs hH hS => ?_)
  obtain ⟨σ7, he, hf⟩ := stp_e hf
  rw [← he] at hH
  clear he
  refine lv_aload_n X.hx X.hb dX2_beginAnew_5 rfl (lv_at hl 0 rfl) ?_
  refine lv_iconst (v := 0) X.hx X.hb dX2_beginAnew_6 (by decide) ?_
  refine pfX2_25 X hH hS ho  dX2_beginAnew_7 (fun H locs hH hS => ?_)
  obtain ⟨σ8, he, hf⟩ := stp_e hf
  rw [← he] at hH
  clear he
  refine lv_aload_n X.hx X.hb dX2_beginAnew_10 rfl (lv_at hl 0 rfl) ?_
  refine lv_iconst (v := 0) X.hx X.hb dX2_beginAnew_11 (by decide) ?_
  refine pfX2_28 X hH hS ho  dX2_beginAnew_12 (fun H locs hH hS => ?_)
  obtain ⟨σ9, he, hf⟩ := stp_e hf
  rw [← he] at hH
  clear he
  refine lv_aload_n X.hx X.hb dX2_beginAnew_15 rfl (lv_at hl 0 rfl) ?_
  refine lv_iconst (v := 1) X.hx X.hb dX2_beginAnew_16 (by decide) ?_
  refine pfX2_31 X hH hS ho  dX2_beginAnew_17 (fun H locs hH hS => ?_)
  obtain ⟨σ10, he, hf⟩ := stp_e hf
  rw [← he] at hH
  clear he
  refine lv_aload_n X.hx X.hb dX2_beginAnew_20 rfl (lv_at hl 0 rfl) ?_
  refine gfX2_9 X hH ho dX2_beginAnew_21 ?_
  refine lv_iconst (v := 0) X.hx X.hb dX2_beginAnew_24 (by decide) ?_
  obtain ⟨σ11, hr, hf⟩ := bd_e hf
  refine g_callSV (As := [.ref (gad G o (4 + 1)), .int (0 : Int32)]) (rest := []) X (kJ7_fill_53178 l ⟨_, ho, rfl⟩ hr) ⟨cdJ7_fill_53178, mlX2_34, stJ7_fill_53178, iniJ7⟩ hsJ7_fill_53178 ⟨Nat.le_of_ble_eq_true rfl, Nat.le_of_ble_eq_true rfl⟩ hH hS hl rfl rfl (Nat.le_of_ble_eq_true rfl) ⟨Nat.le_refl 0, Nat.le_refl 0⟩ dX2_beginAnew_25 (fun H locs hH hS => ?_)
  refine lv_aload_n X.hx X.hb dX2_beginAnew_28 rfl (lv_at hl 0 rfl) ?_
  refine gfX2_15 X hH ho dX2_beginAnew_29 ?_
  refine lv_iconst (v := 0) X.hx X.hb dX2_beginAnew_32 (by decide) ?_
  obtain ⟨σ12, hr, hf⟩ := bd_e hf
  refine g_callSV (As := [.ref (gad G o (5 + 1)), .int (0 : Int32)]) (rest := []) X (kJ7_fill_53178 l ⟨_, ho, rfl⟩ hr) ⟨cdJ7_fill_53178, mlX2_34, stJ7_fill_53178, iniJ7⟩ hsJ7_fill_53178 ⟨Nat.le_of_ble_eq_true rfl, Nat.le_of_ble_eq_true rfl⟩ hH hS hl rfl rfl (Nat.le_of_ble_eq_true rfl) ⟨Nat.le_refl 0, Nat.le_refl 0⟩ dX2_beginAnew_33 (fun H locs hH hS => ?_)
  have e := so1 hf
  rw [e] at hH
  exact g_vret X hH hS rfl dX2_beginAnew_36
set_option maxRecDepth 20000 in
set_option maxHeartbeats 4000000 in
theorem bX5_rowWith_2 {p : Program} {l : Launch} {e : Env} {s : State} {m : MethodId} {args : Array Value} {below : List Frame} {meth : Method} {c : Code} {G : gG} (X : gX p s m args meth c yX5_rowWith cX5_rowWith 3 (some .int) RX5 G)  {σ : Mem} {r : Int32} : (∀ (n : Nat) (a0 : Nat) (b0 : Nat) (n0 : Nat) (x1 : Int32) (x2 : Int32), gvA G a0 b0 4 n0 → fX5_rowWith_2 σ n a0 b0 n0 x1 x2 = some r → ∀ (H : Heap) (locs : List Loc) (ls : Array Slot), gH G σ H → va_S (gAA G) s.heap H locs → lv_has ls 3 [(0, .ref (gad G a0 (b0 + 1))), (1, .int x1), (2, .int x2)] → WB p l e 0 0 s m args below meth c G (some (.int r)) σ H locs (F0 m 2 ls [])) := by
  intro n
  induction n with
  | zero => intro a0 b0 n0 x1 x2 ha0 hf H locs ls hH hS hl; exact nomatch (show (none : Option Int32) = some _ from hf)
  | succ n ih =>
    intro a0 b0 n0 x1 x2 ha0 hf H locs ls hH hS hl
    rw [fX5_rowWith_2.eq_2] at hf
    refine lv_iload_n X.hx X.hb dX5_rowWith_2 rfl (lv_at hl 2 rfl) ?_
    refine lv_aload_n X.hx X.hb dX5_rowWith_3 rfl (lv_at hl 0 rfl) ?_
    refine g_alen X hH ha0 dX5_rowWith_4 ?_
    refine lv_icmp_ge (tgt := 26) X.hx X.hb dX5_rowWith_5 (by decide) (fun c3 => ?_) (fun c3 => ?_)
    · have hf := it_p hf c3
      refine lv_bipush (v := -9) X.hx X.hb dX5_rowWith_26 (by decide) ?_
      exact g_iret X hH hS rfl (so1 hf) dX5_rowWith_28
    · have hf := it_n hf c3
      refine lv_aload_n X.hx X.hb dX5_rowWith_8 rfl (lv_at hl 0 rfl) ?_
      refine lv_iload_n X.hx X.hb dX5_rowWith_9 rfl (lv_at hl 2 rfl) ?_
      obtain ⟨hg, hf⟩ := gd_e hf
      refine g_iald X hH ha0 hg dX5_rowWith_10 ?_
      refine lv_iload_n X.hx X.hb dX5_rowWith_11 rfl (lv_at hl 1 rfl) ?_
      refine lv_ishr X.hx X.hb dX5_rowWith_12 ?_
      refine lv_iconst (v := 1) X.hx X.hb dX5_rowWith_13 (by decide) ?_
      refine lv_iand X.hx X.hb dX5_rowWith_14 ?_
      refine lv_if_eq (tgt := 20) X.hx X.hb dX5_rowWith_15 (by decide) (fun c4 => ?_) (fun c4 => ?_)
      · have hf := it_p hf c4
        refine lv_iinc (v := x2 + 1) (lv' := [(2, .int (x2 + 1)), (0, .ref (gad G a0 (b0 + 1))), (1, .int x1)]) X.hx X.hb dX5_rowWith_20 hl (k := 2) rfl rfl (by decide) rfl (fun ls hl => ?_)
        refine lv_goto (tgt := 2) X.hx X.hb dX5_rowWith_23 (by decide) ?_
        exact ih _ _ _ _ _ ha0 hf _ _ _ hH hS (lv_sub hl [1, 2, 0] rfl)
      · have hf := it_n hf c4
        refine lv_iload_n X.hx X.hb dX5_rowWith_18 rfl (lv_at hl 2 rfl) ?_
        exact g_iret X hH hS rfl (so1 hf) dX5_rowWith_19
set_option maxRecDepth 20000 in
set_option maxHeartbeats 4000000 in
theorem kX5_rowWith (l : Launch) {G : gG} {σ : Mem} {r : Int32} {a0 b0 n0 : Nat} {x1 : Int32} (ha0 : gvA G a0 b0 4 n0) (hf : fX5_rowWith σ a0 b0 n0 x1 = some r) : CM l yX5_rowWith cX5_rowWith 3 (some .int) 0 0 G σ [.ref (gad G a0 (b0 + 1)), .int x1] (some (.int r)) σ := by
  refine CM.of (by decide) (Nat.le_of_ble_eq_true rfl) (fun p e s m below meth c ls X hH hl => ?_)
  have X : gX p s m _ meth c yX5_rowWith cX5_rowWith 3 (some .int) RX5 G := X
  have hS : va_S (gAA G) s.heap s.heap [] := va_S.rf
  have hl : lv_has ls 3 [(0, .ref (gad G a0 (b0 + 1))), (1, .int x1)] := hl
  rw [fX5_rowWith.eq_1] at hf
  refine lv_iconst (v := 0) X.hx X.hb dX5_rowWith_0 (by decide) ?_
  refine lv_istore_n (lv' := [(2, .int (0 : Int32)), (0, .ref (gad G a0 (b0 + 1))), (1, .int x1)]) X.hx X.hb dX5_rowWith_1 rfl hl (by decide) rfl (fun ls hl => ?_)
  exact bX5_rowWith_2 X    _ _ _ _ _ _ ha0 hf _ _ _ hH hS (lv_sub hl [1, 2, 0] rfl)
set_option maxRecDepth 20000 in
set_option maxHeartbeats 4000000 in
theorem kX2_rowOf (l : Launch) {G : gG} {σ : Mem} {r : Int32} {o : Nat} {x1 : Int32} (ho : gsh G o = some 2)  (hf : fX2_rowOf σ o x1 = some r) : CM l yX2_rowOf cX2_rowOf 2 (some .int) 1 22 G σ [.ref (gad G o 0), .int x1] (some (.int r)) σ := by
  refine CM.of (by decide) (Nat.le_of_ble_eq_true rfl) (fun p e s m below meth c ls X hH hl => ?_)
  have X : gX p s m _ meth c yX2_rowOf cX2_rowOf 2 (some .int) RX2 G := X
  have hS : va_S (gAA G) s.heap s.heap [] := va_S.rf
  have hl : lv_has ls 2 [(0, .ref (gad G o 0)), (1, .int x1)] := hl
  rw [fX2_rowOf.eq_1] at hf
  refine lv_aload_n X.hx X.hb dX2_rowOf_0 rfl (lv_at hl 0 rfl) ?_
  refine gfX2_9 X hH ho dX2_rowOf_1 ?_
  refine lv_iload_n X.hx X.hb dX2_rowOf_4 rfl (lv_at hl 1 rfl) ?_
  obtain ⟨r2, hr, hf⟩ := bd_e hf
  refine g_callNI (As := [.ref (gad G o (4 + 1)), .int x1]) (rest := []) X (kX5_rowWith l ⟨_, ho, rfl⟩ hr) X.hK.2.1 ⟨cdX5_rowWith, stX5_rowWith, iniX5⟩ hsX5_rowWith ⟨Nat.le_of_ble_eq_true rfl, Nat.le_of_ble_eq_true rfl⟩ hH hS hl rfl rfl (Nat.le_of_ble_eq_true rfl) ⟨Nat.le_refl 0, Nat.le_refl 0⟩ dX2_rowOf_5 (fun H locs hH hS => ?_)
  exact g_iret X hH hS rfl (so1 hf) dX2_rowOf_8
set_option maxRecDepth 20000 in
set_option maxHeartbeats 4000000 in
theorem kX2_daysInRow (l : Launch) {G : gG} {σ : Mem} {r : Int32} {o : Nat} {x1 : Int32} (ho : gsh G o = some 2)  (hf : fX2_daysInRow σ o x1 = some r) : CM l yX2_daysInRow cX2_daysInRow 3 (some .int) 2 43 G σ [.ref (gad G o 0), .int x1] (some (.int r)) σ := by
  refine CM.of (by decide) (Nat.le_of_ble_eq_true rfl) (fun p e s m below meth c ls X hH hl => ?_)
  have X : gX p s m _ meth c yX2_daysInRow cX2_daysInRow 3 (some .int) RX2 G := X
  have hS : va_S (gAA G) s.heap s.heap [] := va_S.rf
  have hl : lv_has ls 3 [(0, .ref (gad G o 0)), (1, .int x1)] := hl
  rw [fX2_daysInRow.eq_1] at hf
  refine lv_aload_n X.hx X.hb dX2_daysInRow_0 rfl (lv_at hl 0 rfl) ?_
  refine lv_iload_n X.hx X.hb dX2_daysInRow_1 rfl (lv_at hl 1 rfl) ?_
  obtain ⟨r4, hr, hf⟩ := bd_e hf
  refine g_callVI (As := [.int x1]) (rest := []) X (kX2_rowOf l ho hr) (C := RX2) (T := TX2) (N := 6) (ci := 2) rfl ho ⟨cdX2_rowOf, mlX2_44, imX2_rowOf, seX2_rowOf, iniX2⟩ hvX2_rowOf ⟨Nat.le_of_ble_eq_true rfl, Nat.le_of_ble_eq_true rfl⟩ hH hS hl rfl rfl (Nat.le_of_ble_eq_true rfl) ⟨Nat.le_refl 0, Nat.le_refl 0⟩ dX2_daysInRow_2 (fun H locs hH hS => ?_)
  refine lv_istore_n (lv' := [(2, .int r4), (0, .ref (gad G o 0)), (1, .int x1)]) X.hx X.hb dX2_daysInRow_5 rfl hl (by decide) rfl (fun ls hl => ?_)
  refine lv_iload_n X.hx X.hb dX2_daysInRow_6 rfl (lv_at hl 0 rfl) ?_
  refine lv_if_lt (tgt := 24) X.hx X.hb dX2_daysInRow_7 (by decide) (fun c5 => ?_) (fun c5 => ?_)
  · have hf := it_p hf c5
    refine lv_iconst (v := 0) X.hx X.hb dX2_daysInRow_24 (by decide) ?_
    exact g_iret X hH hS rfl (so1 hf) dX2_daysInRow_25
  · have hf := it_n hf c5
    refine lv_iload_n X.hx X.hb dX2_daysInRow_10 rfl (lv_at hl 0 rfl) ?_
    refine lv_iconst (v := 3) X.hx X.hb dX2_daysInRow_11 (by decide) ?_
    refine lv_icmp_ge (tgt := 24) X.hx X.hb dX2_daysInRow_12 (by decide) (fun c6 => ?_) (fun c6 => ?_)
    · have hf := it_p hf c6
      refine lv_iconst (v := 0) X.hx X.hb dX2_daysInRow_24 (by decide) ?_
      exact g_iret X hH hS rfl (so1 hf) dX2_daysInRow_25
    · have hf := it_n hf c6
      refine lv_aload_n X.hx X.hb dX2_daysInRow_15 rfl (lv_at hl 1 rfl) ?_
      refine gfX2_15 X hH ho dX2_daysInRow_16 ?_
      refine lv_iload_n X.hx X.hb dX2_daysInRow_19 rfl (lv_at hl 0 rfl) ?_
      obtain ⟨hg, hf⟩ := gd_e hf
      refine g_iald X hH ⟨_, ho, rfl⟩ hg dX2_daysInRow_20 ?_
      refine lv_goto (tgt := 25) X.hx X.hb dX2_daysInRow_21 (by decide) ?_
      exact g_iret X hH hS rfl (so1 hf) dX2_daysInRow_25
set_option maxRecDepth 20000 in
set_option maxHeartbeats 4000000 in
theorem kX2_isGone (l : Launch) {G : gG} {σ : Mem} {r : Int32} {o : Nat} {x1 : Int32} (ho : gsh G o = some 2)  (hf : fX2_isGone σ o x1 = some r) : CM l yX2_isGone cX2_isGone 2 (some .boolean) 0 0 G σ [.ref (gad G o 0), .int x1] (some (.int r)) σ := by
  refine CM.of (by decide) (Nat.le_of_ble_eq_true rfl) (fun p e s m below meth c ls X hH hl => ?_)
  have X : gX p s m _ meth c yX2_isGone cX2_isGone 2 (some .boolean) RX2 G := X
  have hS : va_S (gAA G) s.heap s.heap [] := va_S.rf
  have hl : lv_has ls 2 [(0, .ref (gad G o 0)), (1, .int x1)] := hl
  rw [fX2_isGone.eq_1] at hf
  refine lv_aload_n X.hx X.hb dX2_isGone_0 rfl (lv_at hl 0 rfl) ?_
  refine gfX2_28 X hH ho dX2_isGone_1 ?_
  refine lv_iload_n X.hx X.hb dX2_isGone_4 rfl (lv_at hl 1 rfl) ?_
  refine lv_ishr X.hx X.hb dX2_isGone_5 ?_
  refine lv_iconst (v := 1) X.hx X.hb dX2_isGone_6 (by decide) ?_
  refine lv_iand X.hx X.hb dX2_isGone_7 ?_
  refine lv_if_eq (tgt := 15) X.hx X.hb dX2_isGone_8 (by decide) (fun c2 => ?_) (fun c2 => ?_)
  · have hf := it_p hf c2
    refine lv_iconst (v := 0) X.hx X.hb dX2_isGone_15 (by decide) ?_
    exact g_zret X hH hS rfl (so1 hf) (by decide) dX2_isGone_16
  · have hf := it_n hf c2
    refine lv_iconst (v := 1) X.hx X.hb dX2_isGone_11 (by decide) ?_
    refine lv_goto (tgt := 16) X.hx X.hb dX2_isGone_12 (by decide) ?_
    exact g_zret X hH hS rfl (so1 hf) (by decide) dX2_isGone_16
set_option maxRecDepth 20000 in
set_option maxHeartbeats 4000000 in
theorem bX2_mayLeave_5 {p : Program} {l : Launch} {e : Env} {s : State} {m : MethodId} {args : Array Value} {below : List Frame} {meth : Method} {c : Code} {G : gG} (X : gX p s m args meth c yX2_mayLeave cX2_mayLeave 5 (some .int) RX2 G) {o : Nat} (ho : gsh G o = some 2)  {σ : Mem} {r : Int32} : (∀ (n : Nat) (x1 : Int32) (x2 : Int32) (x3 : Int32) (x4 : Int32), fX2_mayLeave_5 σ o n x1 x2 x3 x4 = some r → ∀ (H : Heap) (locs : List Loc) (ls : Array Slot), gH G σ H → va_S (gAA G) s.heap H locs → lv_has ls 5 [(0, .ref (gad G o 0)), (1, .int x1), (2, .int x2), (3, .int x3), (4, .int x4)] → WB p l e 0 0 s m args below meth c G (some (.int r)) σ H locs (F0 m 5 ls [])) := by
  intro n
  induction n with
  | zero => intro x1 x2 x3 x4 hf H locs ls hH hS hl; exact nomatch (show (none : Option Int32) = some _ from hf)
  | succ n ih =>
    intro x1 x2 x3 x4 hf H locs ls hH hS hl
    rw [fX2_mayLeave_5.eq_2] at hf
    refine lv_iload X.hx X.hb dX2_mayLeave_5 (lv_at hl 4 rfl) ?_
    refine lv_iconst (v := 3) X.hx X.hb dX2_mayLeave_7 (by decide) ?_
    refine lv_icmp_ge (tgt := 40) X.hx X.hb dX2_mayLeave_8 (by decide) (fun c3 => ?_) (fun c3 => ?_)
    · have hf := it_p hf c3
      refine lv_iload_n X.hx X.hb dX2_mayLeave_40 rfl (lv_at hl 3 rfl) ?_
      exact g_iret X hH hS rfl (so1 hf) dX2_mayLeave_41
    · have hf := it_n hf c3
      refine lv_aload_n X.hx X.hb dX2_mayLeave_11 rfl (lv_at hl 0 rfl) ?_
      refine gfX2_15 X hH ho dX2_mayLeave_12 ?_
      refine lv_iload X.hx X.hb dX2_mayLeave_15 (lv_at hl 4 rfl) ?_
      obtain ⟨hg, hf⟩ := gd_e hf
      refine g_iald X hH ⟨_, ho, rfl⟩ hg dX2_mayLeave_17 ?_
      refine lv_iload_n X.hx X.hb dX2_mayLeave_18 rfl (lv_at hl 2 rfl) ?_
      refine lv_iadd X.hx X.hb dX2_mayLeave_19 ?_
      refine lv_iload_n X.hx X.hb dX2_mayLeave_20 rfl (lv_at hl 1 rfl) ?_
      refine lv_icmp_lt (tgt := 34) X.hx X.hb dX2_mayLeave_21 (by decide) (fun c4 => ?_) (fun c4 => ?_)
      · have hf := it_p hf c4
        refine lv_iinc (v := x4 + 1) (lv' := [(4, .int (x4 + 1)), (0, .ref (gad G o 0)), (1, .int x1), (2, .int x2), (3, .int x3)]) X.hx X.hb dX2_mayLeave_34 hl (k := 4) rfl rfl (by decide) rfl (fun ls hl => ?_)
        refine lv_goto (tgt := 5) X.hx X.hb dX2_mayLeave_37 (by decide) ?_
        exact ih _ _ _ _  hf _ _ _ hH hS (lv_sub hl [1, 2, 3, 4, 0] rfl)
      · have hf := it_n hf c4
        refine lv_iload_n X.hx X.hb dX2_mayLeave_24 rfl (lv_at hl 3 rfl) ?_
        refine lv_aload_n X.hx X.hb dX2_mayLeave_25 rfl (lv_at hl 0 rfl) ?_
        refine gfX2_9 X hH ho dX2_mayLeave_26 ?_
        refine lv_iload X.hx X.hb dX2_mayLeave_29 (lv_at hl 4 rfl) ?_
        obtain ⟨hg, hf⟩ := gd_e hf
        refine g_iald X hH ⟨_, ho, rfl⟩ hg dX2_mayLeave_31 ?_
        refine lv_ior X.hx X.hb dX2_mayLeave_32 ?_
        refine lv_istore_n (lv' := [(3, .int (x3 ||| (mA σ o 4 x4.toNatClampNeg))), (0, .ref (gad G o 0)), (1, .int x1), (2, .int x2), (4, .int x4)]) X.hx X.hb dX2_mayLeave_33 rfl hl (by decide) rfl (fun ls hl => ?_)
        refine lv_iinc (v := x4 + 1) (lv' := [(4, .int (x4 + 1)), (3, .int (x3 ||| (mA σ o 4 x4.toNatClampNeg))), (0, .ref (gad G o 0)), (1, .int x1), (2, .int x2)]) X.hx X.hb dX2_mayLeave_34 hl (k := 4) rfl rfl (by decide) rfl (fun ls hl => ?_)
        refine lv_goto (tgt := 5) X.hx X.hb dX2_mayLeave_37 (by decide) ?_
        exact ih _ _ _ _  hf _ _ _ hH hS (lv_sub hl [2, 3, 4, 1, 0] rfl)
set_option maxRecDepth 20000 in
set_option maxHeartbeats 4000000 in
theorem kX2_mayLeave (l : Launch) {G : gG} {σ : Mem} {r : Int32} {o : Nat} {x1 : Int32} {x2 : Int32} (ho : gsh G o = some 2)  (hf : fX2_mayLeave σ o x1 x2 = some r) : CM l yX2_mayLeave cX2_mayLeave 5 (some .int) 0 0 G σ [.ref (gad G o 0), .int x1, .int x2] (some (.int r)) σ := by
  refine CM.of (by decide) (Nat.le_of_ble_eq_true rfl) (fun p e s m below meth c ls X hH hl => ?_)
  have X : gX p s m _ meth c yX2_mayLeave cX2_mayLeave 5 (some .int) RX2 G := X
  have hS : va_S (gAA G) s.heap s.heap [] := va_S.rf
  have hl : lv_has ls 5 [(0, .ref (gad G o 0)), (1, .int x1), (2, .int x2)] := hl
  rw [fX2_mayLeave.eq_1] at hf
  refine lv_iconst (v := 0) X.hx X.hb dX2_mayLeave_0 (by decide) ?_
  refine lv_istore_n (lv' := [(3, .int (0 : Int32)), (0, .ref (gad G o 0)), (1, .int x1), (2, .int x2)]) X.hx X.hb dX2_mayLeave_1 rfl hl (by decide) rfl (fun ls hl => ?_)
  refine lv_iconst (v := 0) X.hx X.hb dX2_mayLeave_2 (by decide) ?_
  refine lv_istore (lv' := [(4, .int (0 : Int32)), (3, .int (0 : Int32)), (0, .ref (gad G o 0)), (1, .int x1), (2, .int x2)]) X.hx X.hb dX2_mayLeave_3 hl (by decide) rfl (fun ls hl => ?_)
  exact bX2_mayLeave_5 X  ho  _ _ _ _ _  hf _ _ _ hH hS (lv_sub hl [2, 3, 4, 1, 0] rfl)
set_option maxRecDepth 20000 in
set_option maxHeartbeats 4000000 in
theorem kX2_vinegarFor (l : Launch) {G : gG} {σ : Mem} {r : Int32} {x0 : Int32}  (hf : fX2_vinegarFor x0 = some r) : CM l yX2_vinegarFor cX2_vinegarFor 1 (some .int) 1 20 G σ [.int x0] (some (.int r)) σ := by
  refine CM.of (by decide) (Nat.le_of_ble_eq_true rfl) (fun p e s m below meth c ls X hH hl => ?_)
  have X : gX p s m _ meth c yX2_vinegarFor cX2_vinegarFor 1 (some .int) RX2 G := X
  have hS : va_S (gAA G) s.heap s.heap [] := va_S.rf
  have hl : lv_has ls 1 [(0, .int x0)] := hl
  rw [fX2_vinegarFor.eq_1] at hf
  refine lv_iload_n X.hx X.hb dX2_vinegarFor_0 rfl (lv_at hl 0 rfl) ?_
  refine lv_if_ne (tgt := 8) X.hx X.hb dX2_vinegarFor_1 (by decide) (fun c3 => ?_) (fun c3 => ?_)
  · have hf := it_n hf c3
    refine lv_iconst (v := 1) X.hx X.hb dX2_vinegarFor_8 (by decide) ?_
    refine lv_iload_n X.hx X.hb dX2_vinegarFor_9 rfl (lv_at hl 0 rfl) ?_
    obtain ⟨r4, hr, hf⟩ := bd_e hf
    refine g_callSI (As := [.int x0]) (rest := [.int (1 : Int32)]) X (kJ6_bitCount_0f7a4 l  hr) ⟨cdJ6_bitCount_0f7a4, mlX2_51, stJ6_bitCount_0f7a4, iniJ6⟩ hsJ6_bitCount_0f7a4 ⟨Nat.le_of_ble_eq_true rfl, Nat.le_of_ble_eq_true rfl⟩ hH hS hl rfl rfl (Nat.le_of_ble_eq_true rfl) ⟨Nat.le_refl 0, Nat.le_refl 0⟩ dX2_vinegarFor_10 (fun H locs hH hS => ?_)
    refine lv_iconst (v := 2) X.hx X.hb dX2_vinegarFor_13 (by decide) ?_
    refine lv_idiv X.hx X.hb dX2_vinegarFor_14 (by decide) ?_
    refine lv_iadd X.hx X.hb dX2_vinegarFor_15 ?_
    exact g_iret X hH hS rfl (so1 hf) dX2_vinegarFor_16
  · have hf := it_p hf c3
    refine lv_iconst (v := 0) X.hx X.hb dX2_vinegarFor_4 (by decide) ?_
    refine lv_goto (tgt := 16) X.hx X.hb dX2_vinegarFor_5 (by decide) ?_
    exact g_iret X hH hS rfl (so1 hf) dX2_vinegarFor_16
set_option maxRecDepth 20000 in
set_option maxHeartbeats 4000000 in
theorem bX2_passDay_12 {p : Program} {l : Launch} {e : Env} {s : State} {m : MethodId} {args : Array Value} {below : List Frame} {meth : Method} {c : Code} {G : gG} (X : gX p s m args meth c yX2_passDay cX2_passDay 2 none RX2 G) {o : Nat} (ho : gsh G o = some 2)  {σ' : Mem} : (∀ (n : Nat) (σ : Mem) (x1 : Int32), fX2_passDay_12 o n σ x1 = some σ' → ∀ (H : Heap) (locs : List Loc) (ls : Array Slot), gH G σ H → va_S (gAA G) s.heap H locs → lv_has ls 2 [(0, .ref (gad G o 0)), (1, .int x1)] → WB p l e 2 40 s m args below meth c G none σ' H locs (F0 m 12 ls [])) := by
  intro n
  induction n with
  | zero => intro σ x1 hf H locs ls hH hS hl; exact nomatch (show (none : Option Mem) = some _ from hf)
  | succ n ih =>
    intro σ x1 hf H locs ls hH hS hl
    rw [fX2_passDay_12.eq_2] at hf
    refine lv_iload_n X.hx X.hb dX2_passDay_12 rfl (lv_at hl 1 rfl) ?_
    refine lv_iconst (v := 3) X.hx X.hb dX2_passDay_13 (by decide) ?_
    refine lv_icmp_ge (tgt := 51) X.hx X.hb dX2_passDay_14 (by decide) (fun c6 => ?_) (fun c6 => ?_)
    · have hf := it_p hf c6
      have e := so1 hf
      rw [e] at hH
      exact g_vret X hH hS rfl dX2_passDay_51
    · have hf := it_n hf c6
      refine lv_aload_n X.hx X.hb dX2_passDay_17 rfl (lv_at hl 0 rfl) ?_
      refine lv_dup X.hx X.hb dX2_passDay_18 rfl ?_
      refine gfX2_25 X hH ho dX2_passDay_19 ?_
      refine lv_aload_n X.hx X.hb dX2_passDay_22 rfl (lv_at hl 0 rfl) ?_
      refine gfX2_9 X hH ho dX2_passDay_23 ?_
      refine lv_iload_n X.hx X.hb dX2_passDay_26 rfl (lv_at hl 1 rfl) ?_
      obtain ⟨hg, hf⟩ := gd_e hf
      refine g_iald X hH ⟨_, ho, rfl⟩ hg dX2_passDay_27 ?_
      obtain ⟨r7, hr, hf⟩ := bd_e hf
      refine g_callSI (As := [.int (mA σ o 4 x1.toNatClampNeg)]) (rest := [.int (mI σ o 1), .ref (gad G o 0)]) X (kX2_vinegarFor l  hr) ⟨cdX2_vinegarFor, mlX2_48, stX2_vinegarFor, iniX2⟩ hsX2_vinegarFor ⟨Nat.le_of_ble_eq_true rfl, Nat.le_of_ble_eq_true rfl⟩ hH hS hl rfl rfl (Nat.le_of_ble_eq_true rfl) ⟨Nat.le_refl 0, Nat.le_refl 0⟩ dX2_passDay_28 (fun H locs hH hS => ?_)
      refine lv_iadd X.hx X.hb dX2_passDay_31 ?_
      refine pfX2_25 X hH hS ho  dX2_passDay_32 (fun H locs hH hS => ?_)
      obtain ⟨σ8, he, hf⟩ := stp_e hf
      rw [← he] at hH
      clear he
      refine lv_aload_n X.hx X.hb dX2_passDay_35 rfl (lv_at hl 0 rfl) ?_
      refine gfX2_15 X hH ho dX2_passDay_36 ?_
      refine lv_iload_n X.hx X.hb dX2_passDay_39 rfl (lv_at hl 1 rfl) ?_
      refine lv_dup2_11 X.hx X.hb dX2_passDay_40 rfl rfl ?_
      obtain ⟨hg, hf⟩ := gd_e hf
      refine g_iald X hH ⟨_, ho, rfl⟩ hg dX2_passDay_41 ?_
      refine lv_iconst (v := 1) X.hx X.hb dX2_passDay_42 (by decide) ?_
      refine lv_iadd X.hx X.hb dX2_passDay_43 ?_
      obtain ⟨hg, hf⟩ := gd_e hf
      refine g_iast X hH hS ⟨_, ho, rfl⟩ hg dX2_passDay_44 (fun H locs hH hS => ?_)
      obtain ⟨σ9, he, hf⟩ := stp_e hf
      rw [← he] at hH
      clear he
      refine lv_iinc (v := x1 + 1) (lv' := [(1, .int (x1 + 1)), (0, .ref (gad G o 0))]) X.hx X.hb dX2_passDay_45 hl (k := 1) rfl rfl (by decide) rfl (fun ls hl => ?_)
      refine lv_goto (tgt := 12) X.hx X.hb dX2_passDay_48 (by decide) ?_
      exact ih _ _  hf _ _ _ hH hS (lv_sub hl [1, 0] rfl)
set_option maxRecDepth 20000 in
set_option maxHeartbeats 4000000 in
theorem kX2_passDay (l : Launch) {G : gG} {σ : Mem} {σ' : Mem} {o : Nat} (ho : gsh G o = some 2)  (hf : fX2_passDay σ o = some σ') : CM l yX2_passDay cX2_passDay 2 none 2 40 G σ [.ref (gad G o 0)] none σ' := by
  refine CM.of (by decide) (Nat.le_of_ble_eq_true rfl) (fun p e s m below meth c ls X hH hl => ?_)
  have X : gX p s m _ meth c yX2_passDay cX2_passDay 2 none RX2 G := X
  have hS : va_S (gAA G) s.heap s.heap [] := va_S.rf
  have hl : lv_has ls 2 [(0, .ref (gad G o 0))] := hl
  rw [fX2_passDay.eq_1] at hf
  refine lv_aload_n X.hx X.hb dX2_passDay_0 rfl (lv_at hl 0 rfl) ?_
  refine lv_dup X.hx X.hb dX2_passDay_1 rfl ?_
  refine gfX2_21 X hH ho dX2_passDay_2 ?_
  refine lv_iconst (v := 1) X.hx X.hb dX2_passDay_5 (by decide) ?_
  refine lv_iadd X.hx X.hb dX2_passDay_6 ?_
  refine pfX2_21 X hH hS ho  dX2_passDay_7 (fun H locs hH hS => ?_)
  obtain ⟨σ10, he, hf⟩ := stp_e hf
  rw [← he] at hH
  clear he
  refine lv_iconst (v := 0) X.hx X.hb dX2_passDay_10 (by decide) ?_
  refine lv_istore_n (lv' := [(1, .int (0 : Int32)), (0, .ref (gad G o 0))]) X.hx X.hb dX2_passDay_11 rfl hl (by decide) rfl (fun ls hl => ?_)
  exact bX2_passDay_12 X  ho  _ _ _  hf _ _ _ hH hS (lv_sub hl [1, 0] rfl)
set_option maxRecDepth 20000 in
set_option maxHeartbeats 4000000 in
theorem bX2_letGo_14 {p : Program} {l : Launch} {e : Env} {s : State} {m : MethodId} {args : Array Value} {below : List Frame} {meth : Method} {c : Code} {G : gG} (X : gX p s m args meth c yX2_letGo cX2_letGo 3 none RX2 G) {o : Nat} (ho : gsh G o = some 2)  {σ' : Mem} : (∀ (n : Nat) (σ : Mem) (x1 : Int32) (x2 : Int32), fX2_letGo_14 o n σ x1 x2 = some σ' → ∀ (H : Heap) (locs : List Loc) (ls : Array Slot), gH G σ H → va_S (gAA G) s.heap H locs → lv_has ls 3 [(0, .ref (gad G o 0)), (1, .int x1), (2, .int x2)] → WB p l e 0 0 s m args below meth c G none σ' H locs (F0 m 14 ls [])) := by
  intro n
  induction n with
  | zero => intro σ x1 x2 hf H locs ls hH hS hl; exact nomatch (show (none : Option Mem) = some _ from hf)
  | succ n ih =>
    intro σ x1 x2 hf H locs ls hH hS hl
    rw [fX2_letGo_14.eq_2] at hf
    refine lv_iload_n X.hx X.hb dX2_letGo_14 rfl (lv_at hl 2 rfl) ?_
    refine lv_iconst (v := 3) X.hx X.hb dX2_letGo_15 (by decide) ?_
    refine lv_icmp_ge (tgt := 39) X.hx X.hb dX2_letGo_16 (by decide) (fun c4 => ?_) (fun c4 => ?_)
    · have hf := it_p hf c4
      have e := so1 hf
      rw [e] at hH
      exact g_vret X hH hS rfl dX2_letGo_39
    · have hf := it_n hf c4
      refine lv_aload_n X.hx X.hb dX2_letGo_19 rfl (lv_at hl 0 rfl) ?_
      refine gfX2_9 X hH ho dX2_letGo_20 ?_
      refine lv_iload_n X.hx X.hb dX2_letGo_23 rfl (lv_at hl 2 rfl) ?_
      refine lv_dup2_11 X.hx X.hb dX2_letGo_24 rfl rfl ?_
      obtain ⟨hg, hf⟩ := gd_e hf
      refine g_iald X hH ⟨_, ho, rfl⟩ hg dX2_letGo_25 ?_
      refine lv_iconst (v := 1) X.hx X.hb dX2_letGo_26 (by decide) ?_
      refine lv_iload_n X.hx X.hb dX2_letGo_27 rfl (lv_at hl 1 rfl) ?_
      refine lv_ishl X.hx X.hb dX2_letGo_28 ?_
      refine lv_iconst (v := -1) X.hx X.hb dX2_letGo_29 (by decide) ?_
      refine lv_ixor X.hx X.hb dX2_letGo_30 ?_
      refine lv_iand X.hx X.hb dX2_letGo_31 ?_
      obtain ⟨hg, hf⟩ := gd_e hf
      refine g_iast X hH hS ⟨_, ho, rfl⟩ hg dX2_letGo_32 (fun H locs hH hS => ?_)
      obtain ⟨σ5, he, hf⟩ := stp_e hf
      rw [← he] at hH
      clear he
      refine lv_iinc (v := x2 + 1) (lv' := [(2, .int (x2 + 1)), (0, .ref (gad G o 0)), (1, .int x1)]) X.hx X.hb dX2_letGo_33 hl (k := 2) rfl rfl (by decide) rfl (fun ls hl => ?_)
      refine lv_goto (tgt := 14) X.hx X.hb dX2_letGo_36 (by decide) ?_
      exact ih _ _ _  hf _ _ _ hH hS (lv_sub hl [1, 2, 0] rfl)
set_option maxRecDepth 20000 in
set_option maxHeartbeats 4000000 in
theorem kX2_letGo (l : Launch) {G : gG} {σ : Mem} {σ' : Mem} {o : Nat} {x1 : Int32} (ho : gsh G o = some 2)  (hf : fX2_letGo σ o x1 = some σ') : CM l yX2_letGo cX2_letGo 3 none 0 0 G σ [.ref (gad G o 0), .int x1] none σ' := by
  refine CM.of (by decide) (Nat.le_of_ble_eq_true rfl) (fun p e s m below meth c ls X hH hl => ?_)
  have X : gX p s m _ meth c yX2_letGo cX2_letGo 3 none RX2 G := X
  have hS : va_S (gAA G) s.heap s.heap [] := va_S.rf
  have hl : lv_has ls 3 [(0, .ref (gad G o 0)), (1, .int x1)] := hl
  rw [fX2_letGo.eq_1] at hf
  refine lv_aload_n X.hx X.hb dX2_letGo_0 rfl (lv_at hl 0 rfl) ?_
  refine lv_dup X.hx X.hb dX2_letGo_1 rfl ?_
  refine gfX2_28 X hH ho dX2_letGo_2 ?_
  refine lv_iconst (v := 1) X.hx X.hb dX2_letGo_5 (by decide) ?_
  refine lv_iload_n X.hx X.hb dX2_letGo_6 rfl (lv_at hl 1 rfl) ?_
  refine lv_ishl X.hx X.hb dX2_letGo_7 ?_
  refine lv_ior X.hx X.hb dX2_letGo_8 ?_
  refine pfX2_28 X hH hS ho  dX2_letGo_9 (fun H locs hH hS => ?_)
  obtain ⟨σ6, he, hf⟩ := stp_e hf
  rw [← he] at hH
  clear he
  refine lv_iconst (v := 0) X.hx X.hb dX2_letGo_12 (by decide) ?_
  refine lv_istore_n (lv' := [(2, .int (0 : Int32)), (0, .ref (gad G o 0)), (1, .int x1)]) X.hx X.hb dX2_letGo_13 rfl hl (by decide) rfl (fun ls hl => ?_)
  exact bX2_letGo_14 X  ho  _ _ _ _  hf _ _ _ hH hS (lv_sub hl [1, 2, 0] rfl)
set_option maxRecDepth 20000 in
set_option maxHeartbeats 4000000 in
theorem bX3_letSail_2 {p : Program} {l : Launch} {e : Env} {s : State} {m : MethodId} {args : Array Value} {below : List Frame} {meth : Method} {c : Code} {G : gG} (X : gX p s m args meth c yX3_letSail cX3_letSail 4 none RX3 G) {o : Nat} (ho : gsh G o = some 3)  {σ' : Mem} : (∀ (n : Nat) (σ : Mem) (x1 : Int32) (x2 : Int32) (x3 : Int32), fX3_letSail_2 o n σ x1 x2 x3 = some σ' → ∀ (H : Heap) (locs : List Loc) (ls : Array Slot), gH G σ H → va_S (gAA G) s.heap H locs → lv_has ls 4 [(0, .ref (gad G o 0)), (1, .int x1), (2, .int x2), (3, .int x3)] → WB p l e 0 0 s m args below meth c G none σ' H locs (F0 m 2 ls [])) := by
  intro n
  induction n with
  | zero => intro σ x1 x2 x3 hf H locs ls hH hS hl; exact nomatch (show (none : Option Mem) = some _ from hf)
  | succ n ih =>
    intro σ x1 x2 x3 hf H locs ls hH hS hl
    rw [fX3_letSail_2.eq_2] at hf
    refine lv_iload_n X.hx X.hb dX3_letSail_2 rfl (lv_at hl 3 rfl) ?_
    refine lv_bipush (v := 6) X.hx X.hb dX3_letSail_3 (by decide) ?_
    refine lv_icmp_ge (tgt := 29) X.hx X.hb dX3_letSail_5 (by decide) (fun c4 => ?_) (fun c4 => ?_)
    · have hf := it_p hf c4
      have e := so1 hf
      rw [e] at hH
      exact g_vret X hH hS rfl dX3_letSail_29
    · have hf := it_n hf c4
      refine lv_iload_n X.hx X.hb dX3_letSail_8 rfl (lv_at hl 1 rfl) ?_
      refine lv_iload_n X.hx X.hb dX3_letSail_9 rfl (lv_at hl 3 rfl) ?_
      refine lv_ishr X.hx X.hb dX3_letSail_10 ?_
      refine lv_iconst (v := 1) X.hx X.hb dX3_letSail_11 (by decide) ?_
      refine lv_iand X.hx X.hb dX3_letSail_12 ?_
      refine lv_if_eq (tgt := 23) X.hx X.hb dX3_letSail_13 (by decide) (fun c5 => ?_) (fun c5 => ?_)
      · have hf := it_p hf c5
        refine lv_iinc (v := x3 + 1) (lv' := [(3, .int (x3 + 1)), (0, .ref (gad G o 0)), (1, .int x1), (2, .int x2)]) X.hx X.hb dX3_letSail_23 hl (k := 3) rfl rfl (by decide) rfl (fun ls hl => ?_)
        refine lv_goto (tgt := 2) X.hx X.hb dX3_letSail_26 (by decide) ?_
        exact ih _ _ _ _  hf _ _ _ hH hS (lv_sub hl [1, 2, 3, 0] rfl)
      · have hf := it_n hf c5
        refine lv_aload_n X.hx X.hb dX3_letSail_16 rfl (lv_at hl 0 rfl) ?_
        refine gfX3_9 X hH ho dX3_letSail_17 ?_
        refine lv_iload_n X.hx X.hb dX3_letSail_20 rfl (lv_at hl 3 rfl) ?_
        refine lv_iload_n X.hx X.hb dX3_letSail_21 rfl (lv_at hl 2 rfl) ?_
        obtain ⟨hg, hf⟩ := gd_e hf
        refine g_iast X hH hS ⟨_, ho, rfl⟩ hg dX3_letSail_22 (fun H locs hH hS => ?_)
        obtain ⟨σ6, he, hf⟩ := stp_e hf
        rw [← he] at hH
        clear he
        refine lv_iinc (v := x3 + 1) (lv' := [(3, .int (x3 + 1)), (0, .ref (gad G o 0)), (1, .int x1), (2, .int x2)]) X.hx X.hb dX3_letSail_23 hl (k := 3) rfl rfl (by decide) rfl (fun ls hl => ?_)
        refine lv_goto (tgt := 2) X.hx X.hb dX3_letSail_26 (by decide) ?_
        exact ih _ _ _ _  hf _ _ _ hH hS (lv_sub hl [1, 2, 3, 0] rfl)
set_option maxRecDepth 20000 in
set_option maxHeartbeats 4000000 in
theorem kX3_letSail (l : Launch) {G : gG} {σ : Mem} {σ' : Mem} {o : Nat} {x1 : Int32} {x2 : Int32} (ho : gsh G o = some 3)  (hf : fX3_letSail σ o x1 x2 = some σ') : CM l yX3_letSail cX3_letSail 4 none 0 0 G σ [.ref (gad G o 0), .int x1, .int x2] none σ' := by
  refine CM.of (by decide) (Nat.le_of_ble_eq_true rfl) (fun p e s m below meth c ls X hH hl => ?_)
  have X : gX p s m _ meth c yX3_letSail cX3_letSail 4 none RX3 G := X
  have hS : va_S (gAA G) s.heap s.heap [] := va_S.rf
  have hl : lv_has ls 4 [(0, .ref (gad G o 0)), (1, .int x1), (2, .int x2)] := hl
  rw [fX3_letSail.eq_1] at hf
  refine lv_iconst (v := 0) X.hx X.hb dX3_letSail_0 (by decide) ?_
  refine lv_istore_n (lv' := [(3, .int (0 : Int32)), (0, .ref (gad G o 0)), (1, .int x1), (2, .int x2)]) X.hx X.hb dX3_letSail_1 rfl hl (by decide) rfl (fun ls hl => ?_)
  exact bX3_letSail_2 X  ho  _ _ _ _ _  hf _ _ _ hH hS (lv_sub hl [1, 2, 3, 0] rfl)
set_option maxRecDepth 20000 in
set_option maxHeartbeats 4000000 in
theorem bX3_runRow_99 {p : Program} {l : Launch} {e : Env} {s : State} {m : MethodId} {args : Array Value} {below : List Frame} {meth : Method} {c : Code} {G : gG} (X : gX p s m args meth c yX3_runRow cX3_runRow 10 (some .int) RX3 G) {o : Nat} (ho : gsh G o = some 3)  {r : Int32} {σ' : Mem} {k11 : Mem → Nat → Int32 → Int32 → Int32 → Int32 → Int32 → Option (Int32 × Mem)} (hk11 : (∀ (σ : Mem) (q1 : Nat) (x2 : Int32) (x3 : Int32) (x4 : Int32) (x5 : Int32) (x6 : Int32), gsh G q1 = some 1 → k11 σ q1 x2 x3 x4 x5 x6 = some (r, σ') → ∀ (H : Heap) (locs : List Loc) (ls : Array Slot), gH G σ H → va_S (gAA G) s.heap H locs → lv_has ls 10 [(0, .ref (gad G o 0)), (1, .ref (gad G q1 0)), (2, .int x2), (3, .int x3), (4, .int x4), (5, .int x5), (6, .int x6)] → WB p l e 2 40 s m args below meth c G (some (.int r)) σ' H locs (F0 m 11 ls []))) : (∀ (σ : Mem) (q1 : Nat) (x2 : Int32) (x3 : Int32) (x5 : Int32) (x6 : Int32) (x7 : Int32) (x9 : Int32), gsh G q1 = some 1 → fX3_runRow_99 k11 o σ q1 x2 x3 x5 x6 x7 x9 = some (r, σ') → ∀ (H : Heap) (locs : List Loc) (ls : Array Slot), gH G σ H → va_S (gAA G) s.heap H locs → lv_has ls 10 [(0, .ref (gad G o 0)), (1, .ref (gad G q1 0)), (2, .int x2), (3, .int x3), (5, .int x5), (6, .int x6), (7, .int x7), (9, .int x9)] → WB p l e 2 40 s m args below meth c G (some (.int r)) σ' H locs (F0 m 99 ls [])) := by
  intro σ q1 x2 x3 x5 x6 x7 x9 hq1 hf H locs ls hH hS hl
  rw [fX3_runRow_99.eq_1] at hf
  refine lv_iload_n X.hx X.hb dX3_runRow_99 rfl (lv_at hl 3 rfl) ?_
  refine lv_iconst (v := 1) X.hx X.hb dX3_runRow_100 (by decide) ?_
  refine lv_iload X.hx X.hb dX3_runRow_101 (lv_at hl 6 rfl) ?_
  refine lv_ishl X.hx X.hb dX3_runRow_103 ?_
  refine lv_ior X.hx X.hb dX3_runRow_104 ?_
  refine lv_istore_n (lv' := [(3, .int (x3 ||| ((1 : Int32) <<< (x7 &&& 31)))), (0, .ref (gad G o 0)), (1, .ref (gad G q1 0)), (2, .int x2), (5, .int x5), (6, .int x6), (7, .int x7), (9, .int x9)]) X.hx X.hb dX3_runRow_105 rfl hl (by decide) rfl (fun ls hl => ?_)
  refine lv_iload X.hx X.hb dX3_runRow_106 (lv_at hl 7 rfl) ?_
  refine lv_istore (lv' := [(4, .int x9), (3, .int (x3 ||| ((1 : Int32) <<< (x7 &&& 31)))), (0, .ref (gad G o 0)), (1, .ref (gad G q1 0)), (2, .int x2), (5, .int x5), (6, .int x6), (7, .int x7), (9, .int x9)]) X.hx X.hb dX3_runRow_108 hl (by decide) rfl (fun ls hl => ?_)
  refine lv_iinc (v := x6 + 1) (lv' := [(6, .int (x6 + 1)), (4, .int x9), (3, .int (x3 ||| ((1 : Int32) <<< (x7 &&& 31)))), (0, .ref (gad G o 0)), (1, .ref (gad G q1 0)), (2, .int x2), (5, .int x5), (7, .int x7), (9, .int x9)]) X.hx X.hb dX3_runRow_110 hl (k := 6) rfl rfl (by decide) rfl (fun ls hl => ?_)
  refine lv_goto (tgt := 11) X.hx X.hb dX3_runRow_113 (by decide) ?_
  exact hk11 _ _ _ _ _ _ _ hq1 hf _ _ _ hH hS (lv_sub hl [3, 4, 5, 2, 1, 6, 0] rfl)
set_option maxRecDepth 20000 in
set_option maxHeartbeats 4000000 in
theorem bX3_runRow_11 {p : Program} {l : Launch} {e : Env} {s : State} {m : MethodId} {args : Array Value} {below : List Frame} {meth : Method} {c : Code} {G : gG} (X : gX p s m args meth c yX3_runRow cX3_runRow 10 (some .int) RX3 G) {o : Nat} (ho : gsh G o = some 3)  {r : Int32} {σ' : Mem} : (∀ (n : Nat) (σ : Mem) (q1 : Nat) (x2 : Int32) (x3 : Int32) (x4 : Int32) (x5 : Int32) (x6 : Int32), gsh G q1 = some 1 → fX3_runRow_11 o n σ q1 x2 x3 x4 x5 x6 = some (r, σ') → ∀ (H : Heap) (locs : List Loc) (ls : Array Slot), gH G σ H → va_S (gAA G) s.heap H locs → lv_has ls 10 [(0, .ref (gad G o 0)), (1, .ref (gad G q1 0)), (2, .int x2), (3, .int x3), (4, .int x4), (5, .int x5), (6, .int x6)] → WB p l e 2 40 s m args below meth c G (some (.int r)) σ' H locs (F0 m 11 ls [])) := by
  intro n
  induction n with
  | zero => intro σ q1 x2 x3 x4 x5 x6 hq1 hf H locs ls hH hS hl; exact nomatch (show (none : Option (Int32 × Mem)) = some _ from hf)
  | succ n ih =>
    intro σ q1 x2 x3 x4 x5 x6 hq1 hf H locs ls hH hS hl
    rw [fX3_runRow_11.eq_2] at hf
    refine lv_iload X.hx X.hb dX3_runRow_11 (lv_at hl 6 rfl) ?_
    refine lv_aload_n X.hx X.hb dX3_runRow_13 rfl (lv_at hl 1 rfl) ?_
    refine gfX3_28 X hH hq1 dX3_runRow_14 ?_
    refine lv_icmp_ge (tgt := 116) X.hx X.hb dX3_runRow_17 (by decide) (fun c10 => ?_) (fun c10 => ?_)
    · have hf := it_p hf c10
      refine lv_aload_n X.hx X.hb dX3_runRow_116 rfl (lv_at hl 1 rfl) ?_
      refine lv_iload X.hx X.hb dX3_runRow_117 (lv_at hl 4 rfl) ?_
      refine lv_aload_n X.hx X.hb dX3_runRow_119 rfl (lv_at hl 1 rfl) ?_
      refine gfX3_36 X hH hq1 dX3_runRow_120 ?_
      refine lv_iadd X.hx X.hb dX3_runRow_123 ?_
      obtain ⟨r11, hr, hf⟩ := bd_e hf
      refine g_callVI (As := [.int (x4 + (mI σ q1 0))]) (rest := []) X (kX1_boatFrom l hq1 hr) (C := RX1) (T := TX1) (N := 11) (ci := 1) rfl hq1 ⟨cdX1_boatFrom, mlX3_39, imX1_boatFrom, seX1_boatFrom, iniX1⟩ hvX1_boatFrom ⟨Nat.le_of_ble_eq_true rfl, Nat.le_of_ble_eq_true rfl⟩ hH hS hl rfl rfl (Nat.le_of_ble_eq_true rfl) ⟨Nat.le_refl 0, Nat.le_refl 0⟩ dX3_runRow_124 (fun H locs hH hS => ?_)
      refine lv_istore (lv' := [(6, .int r11), (0, .ref (gad G o 0)), (1, .ref (gad G q1 0)), (2, .int x2), (3, .int x3), (4, .int x4), (5, .int x5)]) X.hx X.hb dX3_runRow_127 hl (by decide) rfl (fun ls hl => ?_)
      refine lv_aload_n X.hx X.hb dX3_runRow_129 rfl (lv_at hl 1 rfl) ?_
      refine lv_iload_n X.hx X.hb dX3_runRow_130 rfl (lv_at hl 4 rfl) ?_
      refine lv_iload X.hx X.hb dX3_runRow_131 (lv_at hl 0 rfl) ?_
      obtain ⟨σ12, hr, hf⟩ := bd_e hf
      refine g_callVV (As := [.int x3, .int r11]) (rest := []) X (kX3_letSail l ho hr) (C := RX3) (T := TX3) (N := 5) (ci := 3) rfl ho ⟨cdX3_letSail, mlX3_57, imX3_letSail, seX3_letSail, iniX3⟩ hvX3_letSail ⟨Nat.le_of_ble_eq_true rfl, Nat.le_of_ble_eq_true rfl⟩ hH hS hl rfl rfl (Nat.le_of_ble_eq_true rfl) ⟨Nat.le_refl 0, Nat.le_refl 0⟩ dX3_runRow_133 (fun H locs hH hS => ?_)
      refine lv_iload X.hx X.hb dX3_runRow_136 (lv_at hl 6 rfl) ?_
      refine lv_iload X.hx X.hb dX3_runRow_138 (lv_at hl 0 rfl) ?_
      refine lv_iload X.hx X.hb dX3_runRow_140 (lv_at hl 5 rfl) ?_
      refine lv_isub X.hx X.hb dX3_runRow_142 ?_
      refine lv_iload_n X.hx X.hb dX3_runRow_143 rfl (lv_at hl 4 rfl) ?_
      obtain ⟨r13, hr, hf⟩ := bd_e hf
      refine g_callSI (As := [.int x3]) (rest := [.int (r11 - x4), .int x5]) X (kX2_vinegarFor l  hr) ⟨cdX2_vinegarFor, mlX3_52, stX2_vinegarFor, iniX2⟩ hsX2_vinegarFor ⟨Nat.le_of_ble_eq_true rfl, Nat.le_of_ble_eq_true rfl⟩ hH hS hl rfl rfl (Nat.le_of_ble_eq_true rfl) ⟨Nat.le_refl 0, Nat.le_refl 0⟩ dX3_runRow_144 (fun H locs hH hS => ?_)
      refine lv_imul X.hx X.hb dX3_runRow_147 ?_
      refine lv_iadd X.hx X.hb dX3_runRow_148 ?_
      have e := so2 hf
      rw [e.2] at hH
      exact g_iret X hH hS rfl e.1 dX3_runRow_149
    · have hf := it_n hf c10
      refine lv_aload_n X.hx X.hb dX3_runRow_20 rfl (lv_at hl 1 rfl) ?_
      refine gfX3_33 X hH hq1 dX3_runRow_21 ?_
      refine lv_iload X.hx X.hb dX3_runRow_24 (lv_at hl 6 rfl) ?_
      obtain ⟨hg, hf⟩ := gd_e hf
      refine g_iald X hH ⟨_, hq1, rfl⟩ hg dX3_runRow_26 ?_
      refine lv_istore (lv' := [(7, .int (mA σ q1 7 x6.toNatClampNeg)), (0, .ref (gad G o 0)), (1, .ref (gad G q1 0)), (2, .int x2), (3, .int x3), (4, .int x4), (5, .int x5), (6, .int x6)]) X.hx X.hb dX3_runRow_27 hl (by decide) rfl (fun ls hl => ?_)
      refine lv_iload_n X.hx X.hb dX3_runRow_29 rfl (lv_at hl 3 rfl) ?_
      refine lv_iload X.hx X.hb dX3_runRow_30 (lv_at hl 0 rfl) ?_
      refine lv_ishr X.hx X.hb dX3_runRow_32 ?_
      refine lv_iconst (v := 1) X.hx X.hb dX3_runRow_33 (by decide) ?_
      refine lv_iand X.hx X.hb dX3_runRow_34 ?_
      refine lv_if_ne (tgt := 41) X.hx X.hb dX3_runRow_35 (by decide) (fun c14 => ?_) (fun c14 => ?_)
      · have hf := it_n hf c14
        refine lv_aload_n X.hx X.hb dX3_runRow_41 rfl (lv_at hl 2 rfl) ?_
        refine lv_iload X.hx X.hb dX3_runRow_42 (lv_at hl 5 rfl) ?_
        refine lv_aload_n X.hx X.hb dX3_runRow_44 rfl (lv_at hl 2 rfl) ?_
        refine gfX3_36 X hH hq1 dX3_runRow_45 ?_
        refine lv_iadd X.hx X.hb dX3_runRow_48 ?_
        obtain ⟨r15, hr, hf⟩ := bd_e hf
        refine g_callVI (As := [.int (x4 + (mI σ q1 0))]) (rest := []) X (kX1_boatFrom l hq1 hr) (C := RX1) (T := TX1) (N := 11) (ci := 1) rfl hq1 ⟨cdX1_boatFrom, mlX3_39, imX1_boatFrom, seX1_boatFrom, iniX1⟩ hvX1_boatFrom ⟨Nat.le_of_ble_eq_true rfl, Nat.le_of_ble_eq_true rfl⟩ hH hS hl rfl rfl (Nat.le_of_ble_eq_true rfl) ⟨Nat.le_refl 0, Nat.le_refl 0⟩ dX3_runRow_49 (fun H locs hH hS => ?_)
        refine lv_istore (lv' := [(8, .int r15), (7, .int (mA σ q1 7 x6.toNatClampNeg)), (0, .ref (gad G o 0)), (1, .ref (gad G q1 0)), (2, .int x2), (3, .int x3), (4, .int x4), (5, .int x5), (6, .int x6)]) X.hx X.hb dX3_runRow_52 hl (by decide) rfl (fun ls hl => ?_)
        refine lv_aload_n X.hx X.hb dX3_runRow_54 rfl (lv_at hl 3 rfl) ?_
        refine gfX3_43 X hH hq1 dX3_runRow_55 ?_
        refine lv_iload X.hx X.hb dX3_runRow_58 (lv_at hl 1 rfl) ?_
        obtain ⟨hg, hf⟩ := gd_e hf
        refine g_iald X hH ⟨_, hq1, rfl⟩ hg dX3_runRow_60 ?_
        refine lv_istore (lv' := [(9, .int (mA σ q1 5 (mA σ q1 7 x6.toNatClampNeg).toNatClampNeg)), (8, .int r15), (7, .int (mA σ q1 7 x6.toNatClampNeg)), (0, .ref (gad G o 0)), (1, .ref (gad G q1 0)), (2, .int x2), (3, .int x3), (4, .int x4), (5, .int x5), (6, .int x6)]) X.hx X.hb dX3_runRow_61 hl (by decide) rfl (fun ls hl => ?_)
        refine lv_iload X.hx X.hb dX3_runRow_63 (lv_at hl 8 rfl) ?_
        refine lv_iload X.hx X.hb dX3_runRow_65 (lv_at hl 1 rfl) ?_
        refine lv_iload X.hx X.hb dX3_runRow_67 (lv_at hl 0 rfl) ?_
        refine g_min X hl mlX3_46 (Nat.le_of_ble_eq_true rfl) (Nat.le_of_ble_eq_true rfl) ⟨Nat.le_refl 0, Nat.le_refl 0⟩ dX3_runRow_69 ?_
        refine lv_iload X.hx X.hb dX3_runRow_72 (lv_at hl 7 rfl) ?_
        refine lv_isub X.hx X.hb dX3_runRow_74 ?_
        refine lv_iload_n X.hx X.hb dX3_runRow_75 rfl (lv_at hl 6 rfl) ?_
        obtain ⟨r16, hr, hf⟩ := bd_e hf
        refine g_callSI (As := [.int x3]) (rest := [.int ((mnI r15 (mA σ q1 5 (mA σ q1 7 x6.toNatClampNeg).toNatClampNeg)) - x4), .int x5]) X (kX2_vinegarFor l  hr) ⟨cdX2_vinegarFor, mlX3_52, stX2_vinegarFor, iniX2⟩ hsX2_vinegarFor ⟨Nat.le_of_ble_eq_true rfl, Nat.le_of_ble_eq_true rfl⟩ hH hS hl rfl rfl (Nat.le_of_ble_eq_true rfl) ⟨Nat.le_refl 0, Nat.le_refl 0⟩ dX3_runRow_76 (fun H locs hH hS => ?_)
        refine lv_imul X.hx X.hb dX3_runRow_79 ?_
        refine lv_iadd X.hx X.hb dX3_runRow_80 ?_
        refine lv_istore (lv' := [(5, .int (x5 + (((mnI r15 (mA σ q1 5 (mA σ q1 7 x6.toNatClampNeg).toNatClampNeg)) - x4) * r16))), (9, .int (mA σ q1 5 (mA σ q1 7 x6.toNatClampNeg).toNatClampNeg)), (8, .int r15), (7, .int (mA σ q1 7 x6.toNatClampNeg)), (0, .ref (gad G o 0)), (1, .ref (gad G q1 0)), (2, .int x2), (3, .int x3), (4, .int x4), (6, .int x6)]) X.hx X.hb dX3_runRow_81 hl (by decide) rfl (fun ls hl => ?_)
        refine lv_iload X.hx X.hb dX3_runRow_83 (lv_at hl 2 rfl) ?_
        refine lv_iload X.hx X.hb dX3_runRow_85 (lv_at hl 1 rfl) ?_
        refine lv_icmp_gt (tgt := 99) X.hx X.hb dX3_runRow_87 (by decide) (fun c17 => ?_) (fun c17 => ?_)
        · have hf := it_p hf c17
          exact bX3_runRow_99 X  ho ih  _ _ _ _ _ _ _ _ hq1 hf _ _ _ hH hS (lv_sub hl [4, 5, 6, 7, 0, 9, 3, 1] rfl)
        · have hf := it_n hf c17
          refine lv_aload_n X.hx X.hb dX3_runRow_90 rfl (lv_at hl 4 rfl) ?_
          refine lv_iload_n X.hx X.hb dX3_runRow_91 rfl (lv_at hl 7 rfl) ?_
          refine lv_iload X.hx X.hb dX3_runRow_92 (lv_at hl 2 rfl) ?_
          obtain ⟨σ18, hr, hf⟩ := bd_e hf
          refine g_callVV (As := [.int x3, .int r15]) (rest := []) X (kX3_letSail l ho hr) (C := RX3) (T := TX3) (N := 5) (ci := 3) rfl ho ⟨cdX3_letSail, mlX3_57, imX3_letSail, seX3_letSail, iniX3⟩ hvX3_letSail ⟨Nat.le_of_ble_eq_true rfl, Nat.le_of_ble_eq_true rfl⟩ hH hS hl rfl rfl (Nat.le_of_ble_eq_true rfl) ⟨Nat.le_refl 0, Nat.le_refl 0⟩ dX3_runRow_94 (fun H locs hH hS => ?_)
          refine lv_iconst (v := 0) X.hx X.hb dX3_runRow_97 (by decide) ?_
          refine lv_istore_n (lv' := [(3, .int (0 : Int32)), (5, .int (x5 + (((mnI r15 (mA σ q1 5 (mA σ q1 7 x6.toNatClampNeg).toNatClampNeg)) - x4) * r16))), (9, .int (mA σ q1 5 (mA σ q1 7 x6.toNatClampNeg).toNatClampNeg)), (8, .int r15), (7, .int (mA σ q1 7 x6.toNatClampNeg)), (0, .ref (gad G o 0)), (1, .ref (gad G q1 0)), (2, .int x2), (4, .int x4), (6, .int x6)]) X.hx X.hb dX3_runRow_98 rfl hl (by decide) rfl (fun ls hl => ?_)
          exact bX3_runRow_99 X  ho ih  _ _ _ _ _ _ _ _ hq1 hf _ _ _ hH hS (lv_sub hl [5, 6, 7, 0, 1, 9, 4, 2] rfl)
      · have hf := it_p hf c14
        refine lv_goto (tgt := 110) X.hx X.hb dX3_runRow_38 (by decide) ?_
        refine lv_iinc (v := x6 + 1) (lv' := [(6, .int (x6 + 1)), (7, .int (mA σ q1 7 x6.toNatClampNeg)), (0, .ref (gad G o 0)), (1, .ref (gad G q1 0)), (2, .int x2), (3, .int x3), (4, .int x4), (5, .int x5)]) X.hx X.hb dX3_runRow_110 hl (k := 7) rfl rfl (by decide) rfl (fun ls hl => ?_)
        refine lv_goto (tgt := 11) X.hx X.hb dX3_runRow_113 (by decide) ?_
        exact ih _ _ _ _ _ _ _ hq1 hf _ _ _ hH hS (lv_sub hl [2, 3, 4, 5, 6, 7, 0] rfl)
set_option maxRecDepth 20000 in
set_option maxHeartbeats 4000000 in
theorem kX3_runRow (l : Launch) {G : gG} {σ : Mem} {r : Int32} {σ' : Mem} {o : Nat} {q1 : Nat} {x2 : Int32} (ho : gsh G o = some 3) (hq1 : gsh G q1 = some 1) (hf : fX3_runRow σ o q1 x2 = some (r, σ')) : CM l yX3_runRow cX3_runRow 10 (some .int) 2 40 G σ [.ref (gad G o 0), .ref (gad G q1 0), .int x2] (some (.int r)) σ' := by
  refine CM.of (by decide) (Nat.le_of_ble_eq_true rfl) (fun p e s m below meth c ls X hH hl => ?_)
  have X : gX p s m _ meth c yX3_runRow cX3_runRow 10 (some .int) RX3 G := X
  have hS : va_S (gAA G) s.heap s.heap [] := va_S.rf
  have hl : lv_has ls 10 [(0, .ref (gad G o 0)), (1, .ref (gad G q1 0)), (2, .int x2)] := hl
  rw [fX3_runRow.eq_1] at hf
  refine lv_iconst (v := 0) X.hx X.hb dX3_runRow_0 (by decide) ?_
  refine lv_istore_n (lv' := [(3, .int (0 : Int32)), (0, .ref (gad G o 0)), (1, .ref (gad G q1 0)), (2, .int x2)]) X.hx X.hb dX3_runRow_1 rfl hl (by decide) rfl (fun ls hl => ?_)
  refine lv_iconst (v := 0) X.hx X.hb dX3_runRow_2 (by decide) ?_
  refine lv_istore (lv' := [(4, .int (0 : Int32)), (3, .int (0 : Int32)), (0, .ref (gad G o 0)), (1, .ref (gad G q1 0)), (2, .int x2)]) X.hx X.hb dX3_runRow_3 hl (by decide) rfl (fun ls hl => ?_)
  refine lv_iconst (v := 0) X.hx X.hb dX3_runRow_5 (by decide) ?_
  refine lv_istore (lv' := [(5, .int (0 : Int32)), (4, .int (0 : Int32)), (3, .int (0 : Int32)), (0, .ref (gad G o 0)), (1, .ref (gad G q1 0)), (2, .int x2)]) X.hx X.hb dX3_runRow_6 hl (by decide) rfl (fun ls hl => ?_)
  refine lv_iconst (v := 0) X.hx X.hb dX3_runRow_8 (by decide) ?_
  refine lv_istore (lv' := [(6, .int (0 : Int32)), (5, .int (0 : Int32)), (4, .int (0 : Int32)), (3, .int (0 : Int32)), (0, .ref (gad G o 0)), (1, .ref (gad G q1 0)), (2, .int x2)]) X.hx X.hb dX3_runRow_9 hl (by decide) rfl (fun ls hl => ?_)
  exact bX3_runRow_11 X  ho  _ _ _ _ _ _ _ _ hq1 hf _ _ _ hH hS (lv_sub hl [4, 5, 6, 3, 2, 1, 0] rfl)
set_option maxRecDepth 20000 in
set_option maxHeartbeats 4000000 in
theorem bX3_weigh_42 {p : Program} {l : Launch} {e : Env} {s : State} {m : MethodId} {args : Array Value} {below : List Frame} {meth : Method} {c : Code} {G : gG} (X : gX p s m args meth c yX3_weigh cX3_weigh 5 none RX3 G) {o : Nat} (ho : gsh G o = some 3)  {σ' : Mem} {k2 : Mem → Nat → Int32 → Int32 → Option Mem} (hk2 : (∀ (σ : Mem) (q1 : Nat) (x2 : Int32) (x3 : Int32), gsh G q1 = some 1 → k2 σ q1 x2 x3 = some σ' → ∀ (H : Heap) (locs : List Loc) (ls : Array Slot), gH G σ H → va_S (gAA G) s.heap H locs → lv_has ls 5 [(0, .ref (gad G o 0)), (1, .ref (gad G q1 0)), (2, .int x2), (3, .int x3)] → WB p l e 3 69 s m args below meth c G none σ' H locs (F0 m 2 ls []))) : (∀ (n : Nat) (σ : Mem) (q1 : Nat) (x2 : Int32) (x3 : Int32) (x4 : Int32), gsh G q1 = some 1 → fX3_weigh_42 k2 o n σ q1 x2 x3 x4 = some σ' → ∀ (H : Heap) (locs : List Loc) (ls : Array Slot), gH G σ H → va_S (gAA G) s.heap H locs → lv_has ls 5 [(0, .ref (gad G o 0)), (1, .ref (gad G q1 0)), (2, .int x2), (3, .int x3), (4, .int x4)] → WB p l e 3 69 s m args below meth c G none σ' H locs (F0 m 42 ls [])) := by
  intro n
  induction n with
  | zero => intro σ q1 x2 x3 x4 hq1 hf H locs ls hH hS hl; exact nomatch (show (none : Option Mem) = some _ from hf)
  | succ n ih =>
    intro σ q1 x2 x3 x4 hq1 hf H locs ls hH hS hl
    rw [fX3_weigh_42.eq_2] at hf
    refine lv_iload X.hx X.hb dX3_weigh_42 (lv_at hl 4 rfl) ?_
    refine lv_aload_n X.hx X.hb dX3_weigh_44 rfl (lv_at hl 1 rfl) ?_
    refine gfX3_28 X hH hq1 dX3_weigh_45 ?_
    refine lv_icmp_ge (tgt := 137) X.hx X.hb dX3_weigh_48 (by decide) (fun c14 => ?_) (fun c14 => ?_)
    · have hf := it_p hf c14
      refine lv_iinc (v := x3 + 1) (lv' := [(3, .int (x3 + 1)), (0, .ref (gad G o 0)), (1, .ref (gad G q1 0)), (2, .int x2), (4, .int x4)]) X.hx X.hb dX3_weigh_137 hl (k := 3) rfl rfl (by decide) rfl (fun ls hl => ?_)
      refine lv_goto (tgt := 2) X.hx X.hb dX3_weigh_140 (by decide) ?_
      exact hk2 _ _ _ _ hq1 hf _ _ _ hH hS (lv_sub hl [1, 2, 3, 0] rfl)
    · have hf := it_n hf c14
      refine lv_iload_n X.hx X.hb dX3_weigh_51 rfl (lv_at hl 3 rfl) ?_
      refine lv_iload X.hx X.hb dX3_weigh_52 (lv_at hl 4 rfl) ?_
      refine lv_ishr X.hx X.hb dX3_weigh_54 ?_
      refine lv_iconst (v := 1) X.hx X.hb dX3_weigh_55 (by decide) ?_
      refine lv_iand X.hx X.hb dX3_weigh_56 ?_
      refine lv_if_ne (tgt := 63) X.hx X.hb dX3_weigh_57 (by decide) (fun c15 => ?_) (fun c15 => ?_)
      · have hf := it_n hf c15
        refine lv_iload_n X.hx X.hb dX3_weigh_63 rfl (lv_at hl 2 rfl) ?_
        refine lv_bipush (v := -9) X.hx X.hb dX3_weigh_64 (by decide) ?_
        refine lv_icmp_ne (tgt := 110) X.hx X.hb dX3_weigh_66 (by decide) (fun c16 => ?_) (fun c16 => ?_)
        · have hf := it_n hf c16
          refine lv_aload_n X.hx X.hb dX3_weigh_110 rfl (lv_at hl 0 rfl) ?_
          refine gfX3_9 X hH ho dX3_weigh_111 ?_
          refine lv_iload X.hx X.hb dX3_weigh_114 (lv_at hl 4 rfl) ?_
          obtain ⟨hg, hf⟩ := gd_e hf
          refine g_iald X hH ⟨_, ho, rfl⟩ hg dX3_weigh_116 ?_
          refine lv_iload_n X.hx X.hb dX3_weigh_117 rfl (lv_at hl 2 rfl) ?_
          refine lv_icmp_gt (tgt := 131) X.hx X.hb dX3_weigh_118 (by decide) (fun c17 => ?_) (fun c17 => ?_)
          · have hf := it_p hf c17
            refine lv_iinc (v := x4 + 1) (lv' := [(4, .int (x4 + 1)), (0, .ref (gad G o 0)), (1, .ref (gad G q1 0)), (2, .int x2), (3, .int x3)]) X.hx X.hb dX3_weigh_131 hl (k := 4) rfl rfl (by decide) rfl (fun ls hl => ?_)
            refine lv_goto (tgt := 42) X.hx X.hb dX3_weigh_134 (by decide) ?_
            exact ih _ _ _ _ _ hq1 hf _ _ _ hH hS (lv_sub hl [1, 2, 3, 4, 0] rfl)
          · have hf := it_n hf c17
            refine lv_aload_n X.hx X.hb dX3_weigh_121 rfl (lv_at hl 0 rfl) ?_
            refine gfX3_21 X hH ho dX3_weigh_122 ?_
            refine lv_iload_n X.hx X.hb dX3_weigh_125 rfl (lv_at hl 3 rfl) ?_
            refine lv_dup2_11 X.hx X.hb dX3_weigh_126 rfl rfl ?_
            obtain ⟨hg, hf⟩ := gd_e hf
            refine g_iald X hH ⟨_, ho, rfl⟩ hg dX3_weigh_127 ?_
            refine lv_iconst (v := 1) X.hx X.hb dX3_weigh_128 (by decide) ?_
            refine lv_isub X.hx X.hb dX3_weigh_129 ?_
            obtain ⟨hg, hf⟩ := gd_e hf
            refine g_iast X hH hS ⟨_, ho, rfl⟩ hg dX3_weigh_130 (fun H locs hH hS => ?_)
            obtain ⟨σ18, he, hf⟩ := stp_e hf
            rw [← he] at hH
            clear he
            refine lv_iinc (v := x4 + 1) (lv' := [(4, .int (x4 + 1)), (0, .ref (gad G o 0)), (1, .ref (gad G q1 0)), (2, .int x2), (3, .int x3)]) X.hx X.hb dX3_weigh_131 hl (k := 4) rfl rfl (by decide) rfl (fun ls hl => ?_)
            refine lv_goto (tgt := 42) X.hx X.hb dX3_weigh_134 (by decide) ?_
            exact ih _ _ _ _ _ hq1 hf _ _ _ hH hS (lv_sub hl [1, 2, 3, 4, 0] rfl)
        · have hf := it_p hf c16
          refine lv_aload_n X.hx X.hb dX3_weigh_69 rfl (lv_at hl 0 rfl) ?_
          refine gfX3_18 X hH ho dX3_weigh_70 ?_
          refine lv_iload_n X.hx X.hb dX3_weigh_73 rfl (lv_at hl 3 rfl) ?_
          refine lv_aload_n X.hx X.hb dX3_weigh_74 rfl (lv_at hl 0 rfl) ?_
          refine gfX3_18 X hH ho dX3_weigh_75 ?_
          refine lv_iload_n X.hx X.hb dX3_weigh_78 rfl (lv_at hl 3 rfl) ?_
          obtain ⟨hg, hf⟩ := gd_e hf
          refine g_iald X hH ⟨_, ho, rfl⟩ hg dX3_weigh_79 ?_
          refine lv_aload_n X.hx X.hb dX3_weigh_80 rfl (lv_at hl 0 rfl) ?_
          refine gfX3_9 X hH ho dX3_weigh_81 ?_
          refine lv_iload X.hx X.hb dX3_weigh_84 (lv_at hl 4 rfl) ?_
          obtain ⟨hg, hf⟩ := gd_e hf
          refine g_iald X hH ⟨_, ho, rfl⟩ hg dX3_weigh_86 ?_
          refine g_max X hl mlX3_65 (Nat.le_of_ble_eq_true rfl) (Nat.le_of_ble_eq_true rfl) ⟨Nat.le_refl 0, Nat.le_refl 0⟩ dX3_weigh_87 ?_
          obtain ⟨hg, hf⟩ := gd_e hf
          refine g_iast X hH hS ⟨_, ho, rfl⟩ hg dX3_weigh_90 (fun H locs hH hS => ?_)
          obtain ⟨σ19, he, hf⟩ := stp_e hf
          rw [← he] at hH
          clear he
          refine lv_aload_n X.hx X.hb dX3_weigh_91 rfl (lv_at hl 0 rfl) ?_
          refine gfX3_21 X hH ho dX3_weigh_92 ?_
          refine lv_iload_n X.hx X.hb dX3_weigh_95 rfl (lv_at hl 3 rfl) ?_
          refine lv_dup2_11 X.hx X.hb dX3_weigh_96 rfl rfl ?_
          obtain ⟨hg, hf⟩ := gd_e hf
          refine g_iald X hH ⟨_, ho, rfl⟩ hg dX3_weigh_97 ?_
          refine lv_aload_n X.hx X.hb dX3_weigh_98 rfl (lv_at hl 0 rfl) ?_
          refine gfX3_9 X hH ho dX3_weigh_99 ?_
          refine lv_iload X.hx X.hb dX3_weigh_102 (lv_at hl 4 rfl) ?_
          obtain ⟨hg, hf⟩ := gd_e hf
          refine g_iald X hH ⟨_, ho, rfl⟩ hg dX3_weigh_104 ?_
          refine lv_iadd X.hx X.hb dX3_weigh_105 ?_
          obtain ⟨hg, hf⟩ := gd_e hf
          refine g_iast X hH hS ⟨_, ho, rfl⟩ hg dX3_weigh_106 (fun H locs hH hS => ?_)
          obtain ⟨σ20, he, hf⟩ := stp_e hf
          rw [← he] at hH
          clear he
          refine lv_goto (tgt := 131) X.hx X.hb dX3_weigh_107 (by decide) ?_
          refine lv_iinc (v := x4 + 1) (lv' := [(4, .int (x4 + 1)), (0, .ref (gad G o 0)), (1, .ref (gad G q1 0)), (2, .int x2), (3, .int x3)]) X.hx X.hb dX3_weigh_131 hl (k := 4) rfl rfl (by decide) rfl (fun ls hl => ?_)
          refine lv_goto (tgt := 42) X.hx X.hb dX3_weigh_134 (by decide) ?_
          exact ih _ _ _ _ _ hq1 hf _ _ _ hH hS (lv_sub hl [1, 2, 3, 4, 0] rfl)
      · have hf := it_p hf c15
        refine lv_goto (tgt := 131) X.hx X.hb dX3_weigh_60 (by decide) ?_
        refine lv_iinc (v := x4 + 1) (lv' := [(4, .int (x4 + 1)), (0, .ref (gad G o 0)), (1, .ref (gad G q1 0)), (2, .int x2), (3, .int x3)]) X.hx X.hb dX3_weigh_131 hl (k := 4) rfl rfl (by decide) rfl (fun ls hl => ?_)
        refine lv_goto (tgt := 42) X.hx X.hb dX3_weigh_134 (by decide) ?_
        exact ih _ _ _ _ _ hq1 hf _ _ _ hH hS (lv_sub hl [1, 2, 3, 4, 0] rfl)
set_option maxRecDepth 20000 in
set_option maxHeartbeats 4000000 in
theorem bX3_weigh_2 {p : Program} {l : Launch} {e : Env} {s : State} {m : MethodId} {args : Array Value} {below : List Frame} {meth : Method} {c : Code} {G : gG} (X : gX p s m args meth c yX3_weigh cX3_weigh 5 none RX3 G) {o : Nat} (ho : gsh G o = some 3)  {σ' : Mem} : (∀ (n : Nat) (σ : Mem) (q1 : Nat) (x2 : Int32) (x3 : Int32), gsh G q1 = some 1 → fX3_weigh_2 o n σ q1 x2 x3 = some σ' → ∀ (H : Heap) (locs : List Loc) (ls : Array Slot), gH G σ H → va_S (gAA G) s.heap H locs → lv_has ls 5 [(0, .ref (gad G o 0)), (1, .ref (gad G q1 0)), (2, .int x2), (3, .int x3)] → WB p l e 3 69 s m args below meth c G none σ' H locs (F0 m 2 ls [])) := by
  intro n
  induction n with
  | zero => intro σ q1 x2 x3 hq1 hf H locs ls hH hS hl; exact nomatch (show (none : Option Mem) = some _ from hf)
  | succ n ih =>
    intro σ q1 x2 x3 hq1 hf H locs ls hH hS hl
    rw [fX3_weigh_2.eq_2] at hf
    refine lv_iload_n X.hx X.hb dX3_weigh_2 rfl (lv_at hl 3 rfl) ?_
    refine lv_iconst (v := 1) X.hx X.hb dX3_weigh_3 (by decide) ?_
    refine lv_aload_n X.hx X.hb dX3_weigh_4 rfl (lv_at hl 1 rfl) ?_
    refine gfX3_28 X hH hq1 dX3_weigh_5 ?_
    refine lv_ishl X.hx X.hb dX3_weigh_8 ?_
    refine lv_icmp_ge (tgt := 143) X.hx X.hb dX3_weigh_9 (by decide) (fun c21 => ?_) (fun c21 => ?_)
    · have hf := it_p hf c21
      have e := so1 hf
      rw [e] at hH
      exact g_vret X hH hS rfl dX3_weigh_143
    · have hf := it_n hf c21
      refine lv_iload_n X.hx X.hb dX3_weigh_12 rfl (lv_at hl 3 rfl) ?_
      refine lv_bipush (v := 64) X.hx X.hb dX3_weigh_13 (by decide) ?_
      refine lv_icmp_ge (tgt := 143) X.hx X.hb dX3_weigh_15 (by decide) (fun c22 => ?_) (fun c22 => ?_)
      · have hf := it_p hf c22
        have e := so1 hf
        rw [e] at hH
        exact g_vret X hH hS rfl dX3_weigh_143
      · have hf := it_n hf c22
        refine lv_aload_n X.hx X.hb dX3_weigh_18 rfl (lv_at hl 0 rfl) ?_
        refine lv_aload_n X.hx X.hb dX3_weigh_19 rfl (lv_at hl 1 rfl) ?_
        refine lv_iload_n X.hx X.hb dX3_weigh_20 rfl (lv_at hl 3 rfl) ?_
        obtain ⟨r23, σ24, hr, hf⟩ := bd2_e hf
        refine g_callVI (As := [.ref (gad G q1 0), .int x3]) (rest := []) X (kX3_runRow l ho hq1 hr) (C := RX3) (T := TX3) (N := 5) (ci := 3) rfl ho ⟨cdX3_runRow, mlX3_61, imX3_runRow, seX3_runRow, iniX3⟩ hvX3_runRow ⟨Nat.le_of_ble_eq_true rfl, Nat.le_of_ble_eq_true rfl⟩ hH hS hl rfl rfl (Nat.le_of_ble_eq_true rfl) ⟨Nat.le_refl 0, Nat.le_refl 0⟩ dX3_weigh_21 (fun H locs hH hS => ?_)
        refine lv_pop X.hx X.hb dX3_weigh_24 rfl ?_
        refine lv_aload_n X.hx X.hb dX3_weigh_25 rfl (lv_at hl 0 rfl) ?_
        refine gfX3_18 X hH ho dX3_weigh_26 ?_
        refine lv_iload_n X.hx X.hb dX3_weigh_29 rfl (lv_at hl 3 rfl) ?_
        refine lv_iconst (v := 0) X.hx X.hb dX3_weigh_30 (by decide) ?_
        obtain ⟨hg, hf⟩ := gd_e hf
        refine g_iast X hH hS ⟨_, ho, rfl⟩ hg dX3_weigh_31 (fun H locs hH hS => ?_)
        obtain ⟨σ25, he, hf⟩ := stp_e hf
        rw [← he] at hH
        clear he
        refine lv_aload_n X.hx X.hb dX3_weigh_32 rfl (lv_at hl 0 rfl) ?_
        refine gfX3_21 X hH ho dX3_weigh_33 ?_
        refine lv_iload_n X.hx X.hb dX3_weigh_36 rfl (lv_at hl 3 rfl) ?_
        refine lv_iconst (v := 0) X.hx X.hb dX3_weigh_37 (by decide) ?_
        obtain ⟨hg, hf⟩ := gd_e hf
        refine g_iast X hH hS ⟨_, ho, rfl⟩ hg dX3_weigh_38 (fun H locs hH hS => ?_)
        obtain ⟨σ26, he, hf⟩ := stp_e hf
        rw [← he] at hH
        clear he
        refine lv_iconst (v := 0) X.hx X.hb dX3_weigh_39 (by decide) ?_
        refine lv_istore (lv' := [(4, .int (0 : Int32)), (0, .ref (gad G o 0)), (1, .ref (gad G q1 0)), (2, .int x2), (3, .int x3)]) X.hx X.hb dX3_weigh_40 hl (by decide) rfl (fun ls hl => ?_)
        exact bX3_weigh_42 X  ho ih _ _ _ _ _ _ hq1 hf _ _ _ hH hS (lv_sub hl [1, 2, 3, 4, 0] rfl)
set_option maxRecDepth 20000 in
set_option maxHeartbeats 4000000 in
theorem kX3_weigh (l : Launch) {G : gG} {σ : Mem} {σ' : Mem} {o : Nat} {q1 : Nat} {x2 : Int32} (ho : gsh G o = some 3) (hq1 : gsh G q1 = some 1) (hf : fX3_weigh σ o q1 x2 = some σ') : CM l yX3_weigh cX3_weigh 5 none 3 69 G σ [.ref (gad G o 0), .ref (gad G q1 0), .int x2] none σ' := by
  refine CM.of (by decide) (Nat.le_of_ble_eq_true rfl) (fun p e s m below meth c ls X hH hl => ?_)
  have X : gX p s m _ meth c yX3_weigh cX3_weigh 5 none RX3 G := X
  have hS : va_S (gAA G) s.heap s.heap [] := va_S.rf
  have hl : lv_has ls 5 [(0, .ref (gad G o 0)), (1, .ref (gad G q1 0)), (2, .int x2)] := hl
  rw [fX3_weigh.eq_1] at hf
  refine lv_iconst (v := 0) X.hx X.hb dX3_weigh_0 (by decide) ?_
  refine lv_istore_n (lv' := [(3, .int (0 : Int32)), (0, .ref (gad G o 0)), (1, .ref (gad G q1 0)), (2, .int x2)]) X.hx X.hb dX3_weigh_1 rfl hl (by decide) rfl (fun ls hl => ?_)
  exact bX3_weigh_2 X  ho  _ _ _ _ _ hq1 hf _ _ _ hH hS (lv_sub hl [1, 2, 3, 0] rfl)
set_option maxRecDepth 20000 in
set_option maxHeartbeats 4000000 in
theorem bX3_costOfRows_6 {p : Program} {l : Launch} {e : Env} {s : State} {m : MethodId} {args : Array Value} {below : List Frame} {meth : Method} {c : Code} {G : gG} (X : gX p s m args meth c yX3_costOfRows cX3_costOfRows 4 (some .int) RX3 G) {o : Nat} (ho : gsh G o = some 3)  {σ : Mem} {r : Int32} : (∀ (n : Nat) (x1 : Int32) (x2 : Int32) (x3 : Int32), fX3_costOfRows_6 σ o n x1 x2 x3 = some r → ∀ (H : Heap) (locs : List Loc) (ls : Array Slot), gH G σ H → va_S (gAA G) s.heap H locs → lv_has ls 4 [(0, .ref (gad G o 0)), (1, .int x1), (2, .int x2), (3, .int x3)] → WB p l e 1 21 s m args below meth c G (some (.int r)) σ H locs (F0 m 6 ls [])) := by
  intro n
  induction n with
  | zero => intro x1 x2 x3 hf H locs ls hH hS hl; exact nomatch (show (none : Option Int32) = some _ from hf)
  | succ n ih =>
    intro x1 x2 x3 hf H locs ls hH hS hl
    rw [fX3_costOfRows_6.eq_2] at hf
    refine lv_iload_n X.hx X.hb dX3_costOfRows_6 rfl (lv_at hl 3 rfl) ?_
    refine lv_iconst (v := 3) X.hx X.hb dX3_costOfRows_7 (by decide) ?_
    refine lv_icmp_ge (tgt := 47) X.hx X.hb dX3_costOfRows_8 (by decide) (fun c2 => ?_) (fun c2 => ?_)
    · have hf := it_p hf c2
      refine lv_iload_n X.hx X.hb dX3_costOfRows_47 rfl (lv_at hl 1 rfl) ?_
      refine lv_sipush (v := 1000) X.hx X.hb dX3_costOfRows_48 (by decide) ?_
      refine lv_imul X.hx X.hb dX3_costOfRows_51 ?_
      refine lv_iload_n X.hx X.hb dX3_costOfRows_52 rfl (lv_at hl 2 rfl) ?_
      refine lv_iadd X.hx X.hb dX3_costOfRows_53 ?_
      exact g_iret X hH hS rfl (so1 hf) dX3_costOfRows_54
    · have hf := it_n hf c2
      refine lv_iload_n X.hx X.hb dX3_costOfRows_11 rfl (lv_at hl 1 rfl) ?_
      refine lv_aload_n X.hx X.hb dX3_costOfRows_12 rfl (lv_at hl 0 rfl) ?_
      refine gfX3_18 X hH ho dX3_costOfRows_13 ?_
      refine lv_aload_n X.hx X.hb dX3_costOfRows_16 rfl (lv_at hl 0 rfl) ?_
      refine gfX3_15 X hH ho dX3_costOfRows_17 ?_
      refine lv_iload_n X.hx X.hb dX3_costOfRows_20 rfl (lv_at hl 3 rfl) ?_
      obtain ⟨hg, hf⟩ := gd_e hf
      refine g_iald X hH ⟨_, ho, rfl⟩ hg dX3_costOfRows_21 ?_
      obtain ⟨hg, hf⟩ := gd_e hf
      refine g_iald X hH ⟨_, ho, rfl⟩ hg dX3_costOfRows_22 ?_
      refine g_max X hl mlX3_65 (Nat.le_of_ble_eq_true rfl) (Nat.le_of_ble_eq_true rfl) ⟨Nat.le_refl 0, Nat.le_refl 0⟩ dX3_costOfRows_23 ?_
      refine lv_istore_n (lv' := [(1, .int (mxI x1 (mA σ o 2 (mA σ o 1 x3.toNatClampNeg).toNatClampNeg))), (0, .ref (gad G o 0)), (2, .int x2), (3, .int x3)]) X.hx X.hb dX3_costOfRows_26 rfl hl (by decide) rfl (fun ls hl => ?_)
      refine lv_iload_n X.hx X.hb dX3_costOfRows_27 rfl (lv_at hl 2 rfl) ?_
      refine lv_aload_n X.hx X.hb dX3_costOfRows_28 rfl (lv_at hl 1 rfl) ?_
      refine gfX3_21 X hH ho dX3_costOfRows_29 ?_
      refine lv_aload_n X.hx X.hb dX3_costOfRows_32 rfl (lv_at hl 1 rfl) ?_
      refine gfX3_15 X hH ho dX3_costOfRows_33 ?_
      refine lv_iload_n X.hx X.hb dX3_costOfRows_36 rfl (lv_at hl 3 rfl) ?_
      obtain ⟨hg, hf⟩ := gd_e hf
      refine g_iald X hH ⟨_, ho, rfl⟩ hg dX3_costOfRows_37 ?_
      obtain ⟨hg, hf⟩ := gd_e hf
      refine g_iald X hH ⟨_, ho, rfl⟩ hg dX3_costOfRows_38 ?_
      refine lv_iadd X.hx X.hb dX3_costOfRows_39 ?_
      refine lv_istore_n (lv' := [(2, .int (x2 + (mA σ o 3 (mA σ o 1 x3.toNatClampNeg).toNatClampNeg))), (1, .int (mxI x1 (mA σ o 2 (mA σ o 1 x3.toNatClampNeg).toNatClampNeg))), (0, .ref (gad G o 0)), (3, .int x3)]) X.hx X.hb dX3_costOfRows_40 rfl hl (by decide) rfl (fun ls hl => ?_)
      refine lv_iinc (v := x3 + 1) (lv' := [(3, .int (x3 + 1)), (2, .int (x2 + (mA σ o 3 (mA σ o 1 x3.toNatClampNeg).toNatClampNeg))), (1, .int (mxI x1 (mA σ o 2 (mA σ o 1 x3.toNatClampNeg).toNatClampNeg))), (0, .ref (gad G o 0))]) X.hx X.hb dX3_costOfRows_41 hl (k := 3) rfl rfl (by decide) rfl (fun ls hl => ?_)
      refine lv_goto (tgt := 6) X.hx X.hb dX3_costOfRows_44 (by decide) ?_
      exact ih _ _ _  hf _ _ _ hH hS (lv_sub hl [3, 2, 1, 0] rfl)
set_option maxRecDepth 20000 in
set_option maxHeartbeats 4000000 in
theorem kX3_costOfRows (l : Launch) {G : gG} {σ : Mem} {r : Int32} {o : Nat} (ho : gsh G o = some 3)  (hf : fX3_costOfRows σ o = some r) : CM l yX3_costOfRows cX3_costOfRows 4 (some .int) 1 21 G σ [.ref (gad G o 0)] (some (.int r)) σ := by
  refine CM.of (by decide) (Nat.le_of_ble_eq_true rfl) (fun p e s m below meth c ls X hH hl => ?_)
  have X : gX p s m _ meth c yX3_costOfRows cX3_costOfRows 4 (some .int) RX3 G := X
  have hS : va_S (gAA G) s.heap s.heap [] := va_S.rf
  have hl : lv_has ls 4 [(0, .ref (gad G o 0))] := hl
  rw [fX3_costOfRows.eq_1] at hf
  refine lv_iconst (v := 0) X.hx X.hb dX3_costOfRows_0 (by decide) ?_
  refine lv_istore_n (lv' := [(1, .int (0 : Int32)), (0, .ref (gad G o 0))]) X.hx X.hb dX3_costOfRows_1 rfl hl (by decide) rfl (fun ls hl => ?_)
  refine lv_iconst (v := 0) X.hx X.hb dX3_costOfRows_2 (by decide) ?_
  refine lv_istore_n (lv' := [(2, .int (0 : Int32)), (1, .int (0 : Int32)), (0, .ref (gad G o 0))]) X.hx X.hb dX3_costOfRows_3 rfl hl (by decide) rfl (fun ls hl => ?_)
  refine lv_iconst (v := 0) X.hx X.hb dX3_costOfRows_4 (by decide) ?_
  refine lv_istore_n (lv' := [(3, .int (0 : Int32)), (2, .int (0 : Int32)), (1, .int (0 : Int32)), (0, .ref (gad G o 0))]) X.hx X.hb dX3_costOfRows_5 rfl hl (by decide) rfl (fun ls hl => ?_)
  exact bX3_costOfRows_6 X  ho  _ _ _ _  hf _ _ _ hH hS (lv_sub hl [3, 2, 1, 0] rfl)
set_option maxRecDepth 20000 in
set_option maxHeartbeats 4000000 in
theorem bX3_spread_18 {p : Program} {l : Launch} {e : Env} {s : State} {m : MethodId} {args : Array Value} {below : List Frame} {meth : Method} {c : Code} {G : gG} (X : gX p s m args meth c yX3_spread cX3_spread 5 none RX3 G) {o : Nat} (ho : gsh G o = some 3)  {σ' : Mem} : (∀ (n : Nat) (σ : Mem) (q1 : Nat) (x3 : Int32) (x4 : Int32), gsh G q1 = some 1 → fX3_spread_18 o n σ q1 x3 x4 = some σ' → ∀ (H : Heap) (locs : List Loc) (ls : Array Slot), gH G σ H → va_S (gAA G) s.heap H locs → lv_has ls 5 [(0, .ref (gad G o 0)), (1, .ref (gad G q1 0)), (3, .int x3), (4, .int x4)] → WB p l e 1 23 s m args below meth c G none σ' H locs (F0 m 18 ls [])) := by
  intro n
  induction n with
  | zero => intro σ q1 x3 x4 hq1 hf H locs ls hH hS hl; exact nomatch (show (none : Option Mem) = some _ from hf)
  | succ n ih =>
    intro σ q1 x3 x4 hq1 hf H locs ls hH hS hl
    rw [fX3_spread_18.eq_2] at hf
    refine lv_iload X.hx X.hb dX3_spread_18 (lv_at hl 3 rfl) ?_
    refine lv_if_lt (tgt := 61) X.hx X.hb dX3_spread_20 (by decide) (fun c5 => ?_) (fun c5 => ?_)
    · have hf := it_p hf c5
      have e := so1 hf
      rw [e] at hH
      exact g_vret X hH hS rfl dX3_spread_61
    · have hf := it_n hf c5
      refine lv_aload_n X.hx X.hb dX3_spread_23 rfl (lv_at hl 1 rfl) ?_
      refine gfX3_68 X hH hq1 dX3_spread_24 ?_
      refine lv_if_le (tgt := 61) X.hx X.hb dX3_spread_27 (by decide) (fun c6 => ?_) (fun c6 => ?_)
      · have hf := it_p hf c6
        have e := so1 hf
        rw [e] at hH
        exact g_vret X hH hS rfl dX3_spread_61
      · have hf := it_n hf c6
        refine lv_aload_n X.hx X.hb dX3_spread_30 rfl (lv_at hl 0 rfl) ?_
        refine gfX3_15 X hH ho dX3_spread_31 ?_
        refine lv_iload_n X.hx X.hb dX3_spread_34 rfl (lv_at hl 2 rfl) ?_
        refine lv_aload_n X.hx X.hb dX3_spread_35 rfl (lv_at hl 1 rfl) ?_
        refine gfX3_68 X hH hq1 dX3_spread_36 ?_
        obtain ⟨hg, hf⟩ := gd_e hf
        refine lv_irem X.hx X.hb dX3_spread_39 (of_decide_eq_true hg) ?_
        refine lv_dup2_11 X.hx X.hb dX3_spread_40 rfl rfl ?_
        obtain ⟨hg, hf⟩ := gd_e hf
        refine g_iald X hH ⟨_, ho, rfl⟩ hg dX3_spread_41 ?_
        refine lv_iconst (v := 1) X.hx X.hb dX3_spread_42 (by decide) ?_
        refine lv_iload X.hx X.hb dX3_spread_43 (lv_at hl 3 rfl) ?_
        refine lv_ishl X.hx X.hb dX3_spread_45 ?_
        refine lv_ior X.hx X.hb dX3_spread_46 ?_
        obtain ⟨hg, hf⟩ := gd_e hf
        refine g_iast X hH hS ⟨_, ho, rfl⟩ hg dX3_spread_47 (fun H locs hH hS => ?_)
        obtain ⟨σ7, he, hf⟩ := stp_e hf
        rw [← he] at hH
        clear he
        refine lv_iload_n X.hx X.hb dX3_spread_48 rfl (lv_at hl 2 rfl) ?_
        refine lv_aload_n X.hx X.hb dX3_spread_49 rfl (lv_at hl 1 rfl) ?_
        refine gfX3_68 X hH hq1 dX3_spread_50 ?_
        obtain ⟨hg, hf⟩ := gd_e hf
        refine lv_idiv X.hx X.hb dX3_spread_53 (of_decide_eq_true hg) ?_
        refine lv_istore_n (lv' := [(3, .int (x3 / (mI σ7 q1 1))), (0, .ref (gad G o 0)), (1, .ref (gad G q1 0)), (4, .int x4)]) X.hx X.hb dX3_spread_54 rfl hl (by decide) rfl (fun ls hl => ?_)
        refine lv_iinc (v := x4 + (-1)) (lv' := [(4, .int (x4 + (-1))), (3, .int (x3 / (mI σ7 q1 1))), (0, .ref (gad G o 0)), (1, .ref (gad G q1 0))]) X.hx X.hb dX3_spread_55 hl (k := 3) rfl rfl (by decide) rfl (fun ls hl => ?_)
        refine lv_goto (tgt := 18) X.hx X.hb dX3_spread_58 (by decide) ?_
        exact ih _ _ _ _ hq1 hf _ _ _ hH hS (lv_sub hl [2, 3, 1, 0] rfl)
set_option maxRecDepth 20000 in
set_option maxHeartbeats 4000000 in
theorem kX3_spread (l : Launch) {G : gG} {σ : Mem} {σ' : Mem} {o : Nat} {q1 : Nat} {x2 : Int32} (ho : gsh G o = some 3) (hq1 : gsh G q1 = some 1) (hf : fX3_spread σ o q1 x2 = some σ') : CM l yX3_spread cX3_spread 5 none 1 23 G σ [.ref (gad G o 0), .ref (gad G q1 0), .int x2] none σ' := by
  refine CM.of (by decide) (Nat.le_of_ble_eq_true rfl) (fun p e s m below meth c ls X hH hl => ?_)
  have X : gX p s m _ meth c yX3_spread cX3_spread 5 none RX3 G := X
  have hS : va_S (gAA G) s.heap s.heap [] := va_S.rf
  have hl : lv_has ls 5 [(0, .ref (gad G o 0)), (1, .ref (gad G q1 0)), (2, .int x2)] := hl
  rw [fX3_spread.eq_1] at hf
  refine lv_aload_n X.hx X.hb dX3_spread_0 rfl (lv_at hl 0 rfl) ?_
  refine gfX3_15 X hH ho dX3_spread_1 ?_
  refine lv_iconst (v := 0) X.hx X.hb dX3_spread_4 (by decide) ?_
  obtain ⟨σ8, hr, hf⟩ := bd_e hf
  refine g_callSV (As := [.ref (gad G o (1 + 1)), .int (0 : Int32)]) (rest := []) X (kJ7_fill_53178 l ⟨_, ho, rfl⟩ hr) ⟨cdJ7_fill_53178, mlX3_84, stJ7_fill_53178, iniJ7⟩ hsJ7_fill_53178 ⟨Nat.le_of_ble_eq_true rfl, Nat.le_of_ble_eq_true rfl⟩ hH hS hl rfl rfl (Nat.le_of_ble_eq_true rfl) ⟨Nat.le_refl 0, Nat.le_refl 0⟩ dX3_spread_5 (fun H locs hH hS => ?_)
  refine lv_iload_n X.hx X.hb dX3_spread_8 rfl (lv_at hl 2 rfl) ?_
  refine lv_istore_n (lv' := [(3, .int x2), (0, .ref (gad G o 0)), (1, .ref (gad G q1 0)), (2, .int x2)]) X.hx X.hb dX3_spread_9 rfl hl (by decide) rfl (fun ls hl => ?_)
  refine lv_aload_n X.hx X.hb dX3_spread_10 rfl (lv_at hl 2 rfl) ?_
  refine gfX3_28 X hH hq1 dX3_spread_11 ?_
  refine lv_iconst (v := 1) X.hx X.hb dX3_spread_14 (by decide) ?_
  refine lv_isub X.hx X.hb dX3_spread_15 ?_
  refine lv_istore (lv' := [(4, .int ((mI σ8 q1 3) - (1 : Int32))), (3, .int x2), (0, .ref (gad G o 0)), (1, .ref (gad G q1 0)), (2, .int x2)]) X.hx X.hb dX3_spread_16 hl (by decide) rfl (fun ls hl => ?_)
  exact bX3_spread_18 X  ho  _ _ _ _ _ hq1 hf _ _ _ hH hS (lv_sub hl [2, 3, 1, 0] rfl)
set_option maxRecDepth 20000 in
set_option maxHeartbeats 4000000 in
theorem bX3_findBest_31 {p : Program} {l : Launch} {e : Env} {s : State} {m : MethodId} {args : Array Value} {below : List Frame} {meth : Method} {c : Code} {G : gG} (X : gX p s m args meth c yX3_findBest cX3_findBest 6 (some .int) RX3 G) {o : Nat} (ho : gsh G o = some 3)  {r : Int32} {σ' : Mem} : (∀ (n : Nat) (σ : Mem) (q1 : Nat) (x2 : Int32) (x3 : Int32) (x4 : Int32), gsh G q1 = some 1 → fX3_findBest_31 o n σ q1 x2 x3 x4 = some (r, σ') → ∀ (H : Heap) (locs : List Loc) (ls : Array Slot), gH G σ H → va_S (gAA G) s.heap H locs → lv_has ls 6 [(0, .ref (gad G o 0)), (1, .ref (gad G q1 0)), (2, .int x2), (3, .int x3), (4, .int x4)] → WB p l e 2 47 s m args below meth c G (some (.int r)) σ' H locs (F0 m 31 ls [])) := by
  intro n
  induction n with
  | zero => intro σ q1 x2 x3 x4 hq1 hf H locs ls hH hS hl; exact nomatch (show (none : Option (Int32 × Mem)) = some _ from hf)
  | succ n ih =>
    intro σ q1 x2 x3 x4 hq1 hf H locs ls hH hS hl
    rw [fX3_findBest_31.eq_2] at hf
    refine lv_iload X.hx X.hb dX3_findBest_31 (lv_at hl 4 rfl) ?_
    refine lv_iload_n X.hx X.hb dX3_findBest_33 rfl (lv_at hl 2 rfl) ?_
    refine lv_icmp_ge (tgt := 71) X.hx X.hb dX3_findBest_34 (by decide) (fun c7 => ?_) (fun c7 => ?_)
    · have hf := it_p hf c7
      refine lv_iload_n X.hx X.hb dX3_findBest_71 rfl (lv_at hl 3 rfl) ?_
      have e := so2 hf
      rw [e.2] at hH
      exact g_iret X hH hS rfl e.1 dX3_findBest_72
    · have hf := it_n hf c7
      refine lv_aload_n X.hx X.hb dX3_findBest_37 rfl (lv_at hl 0 rfl) ?_
      refine lv_aload_n X.hx X.hb dX3_findBest_38 rfl (lv_at hl 1 rfl) ?_
      refine lv_iload X.hx X.hb dX3_findBest_39 (lv_at hl 4 rfl) ?_
      obtain ⟨σ8, hr, hf⟩ := bd_e hf
      refine g_callVV (As := [.ref (gad G q1 0), .int x4]) (rest := []) X (kX3_spread l ho hq1 hr) (C := RX3) (T := TX3) (N := 5) (ci := 3) rfl ho ⟨cdX3_spread, mlX3_72, imX3_spread, seX3_spread, iniX3⟩ hvX3_spread ⟨Nat.le_of_ble_eq_true rfl, Nat.le_of_ble_eq_true rfl⟩ hH hS hl rfl rfl (Nat.le_of_ble_eq_true rfl) ⟨Nat.le_refl 0, Nat.le_refl 0⟩ dX3_findBest_41 (fun H locs hH hS => ?_)
      refine lv_aload_n X.hx X.hb dX3_findBest_44 rfl (lv_at hl 0 rfl) ?_
      obtain ⟨r9, hr, hf⟩ := bd_e hf
      refine g_callVI (As := []) (rest := []) X (kX3_costOfRows l ho hr) (C := RX3) (T := TX3) (N := 5) (ci := 3) rfl ho ⟨cdX3_costOfRows, mlX3_76, imX3_costOfRows, seX3_costOfRows, iniX3⟩ hvX3_costOfRows ⟨Nat.le_of_ble_eq_true rfl, Nat.le_of_ble_eq_true rfl⟩ hH hS hl rfl rfl (Nat.le_of_ble_eq_true rfl) ⟨Nat.le_refl 0, Nat.le_refl 0⟩ dX3_findBest_45 (fun H locs hH hS => ?_)
      refine lv_istore (lv' := [(5, .int r9), (0, .ref (gad G o 0)), (1, .ref (gad G q1 0)), (2, .int x2), (3, .int x3), (4, .int x4)]) X.hx X.hb dX3_findBest_48 hl (by decide) rfl (fun ls hl => ?_)
      refine lv_iload X.hx X.hb dX3_findBest_50 (lv_at hl 0 rfl) ?_
      refine lv_iload_n X.hx X.hb dX3_findBest_52 rfl (lv_at hl 4 rfl) ?_
      refine lv_icmp_ge (tgt := 65) X.hx X.hb dX3_findBest_53 (by decide) (fun c10 => ?_) (fun c10 => ?_)
      · have hf := it_p hf c10
        refine lv_iinc (v := x4 + 1) (lv' := [(4, .int (x4 + 1)), (5, .int r9), (0, .ref (gad G o 0)), (1, .ref (gad G q1 0)), (2, .int x2), (3, .int x3)]) X.hx X.hb dX3_findBest_65 hl (k := 5) rfl rfl (by decide) rfl (fun ls hl => ?_)
        refine lv_goto (tgt := 31) X.hx X.hb dX3_findBest_68 (by decide) ?_
        exact ih _ _ _ _ _ hq1 hf _ _ _ hH hS (lv_sub hl [2, 3, 4, 5, 0] rfl)
      · have hf := it_n hf c10
        refine lv_iload X.hx X.hb dX3_findBest_56 (lv_at hl 0 rfl) ?_
        refine lv_istore_n (lv' := [(3, .int r9), (5, .int r9), (0, .ref (gad G o 0)), (1, .ref (gad G q1 0)), (2, .int x2), (4, .int x4)]) X.hx X.hb dX3_findBest_58 rfl hl (by decide) rfl (fun ls hl => ?_)
        refine lv_aload_n X.hx X.hb dX3_findBest_59 rfl (lv_at hl 2 rfl) ?_
        refine lv_iload X.hx X.hb dX3_findBest_60 (lv_at hl 5 rfl) ?_
        refine pfX3_24 X hH hS ho  dX3_findBest_62 (fun H locs hH hS => ?_)
        obtain ⟨σ11, he, hf⟩ := stp_e hf
        rw [← he] at hH
        clear he
        refine lv_iinc (v := x4 + 1) (lv' := [(4, .int (x4 + 1)), (3, .int r9), (5, .int r9), (0, .ref (gad G o 0)), (1, .ref (gad G q1 0)), (2, .int x2)]) X.hx X.hb dX3_findBest_65 hl (k := 5) rfl rfl (by decide) rfl (fun ls hl => ?_)
        refine lv_goto (tgt := 31) X.hx X.hb dX3_findBest_68 (by decide) ?_
        exact ih _ _ _ _ _ hq1 hf _ _ _ hH hS (lv_sub hl [3, 4, 5, 1, 0] rfl)
set_option maxRecDepth 20000 in
set_option maxHeartbeats 4000000 in
theorem bX3_findBest_4 {p : Program} {l : Launch} {e : Env} {s : State} {m : MethodId} {args : Array Value} {below : List Frame} {meth : Method} {c : Code} {G : gG} (X : gX p s m args meth c yX3_findBest cX3_findBest 6 (some .int) RX3 G) {o : Nat} (ho : gsh G o = some 3)  {r : Int32} {σ' : Mem} : (∀ (n : Nat) (σ : Mem) (q1 : Nat) (x2 : Int32) (x3 : Int32), gsh G q1 = some 1 → fX3_findBest_4 o n σ q1 x2 x3 = some (r, σ') → ∀ (H : Heap) (locs : List Loc) (ls : Array Slot), gH G σ H → va_S (gAA G) s.heap H locs → lv_has ls 6 [(0, .ref (gad G o 0)), (1, .ref (gad G q1 0)), (2, .int x2), (3, .int x3)] → WB p l e 2 47 s m args below meth c G (some (.int r)) σ' H locs (F0 m 4 ls [])) := by
  intro n
  induction n with
  | zero => intro σ q1 x2 x3 hq1 hf H locs ls hH hS hl; exact nomatch (show (none : Option (Int32 × Mem)) = some _ from hf)
  | succ n ih =>
    intro σ q1 x2 x3 hq1 hf H locs ls hH hS hl
    rw [fX3_findBest_4.eq_2] at hf
    refine lv_iload_n X.hx X.hb dX3_findBest_4 rfl (lv_at hl 3 rfl) ?_
    refine lv_aload_n X.hx X.hb dX3_findBest_5 rfl (lv_at hl 1 rfl) ?_
    refine gfX3_28 X hH hq1 dX3_findBest_6 ?_
    refine lv_icmp_ge (tgt := 25) X.hx X.hb dX3_findBest_9 (by decide) (fun c12 => ?_) (fun c12 => ?_)
    · have hf := it_p hf c12
      refine lv_ldc X.hx X.hb X.hown (X.w kcX3_71) dX3_findBest_25 ?_
      refine lv_istore_n (lv' := [(3, .int (1000000 : Int32)), (0, .ref (gad G o 0)), (1, .ref (gad G q1 0)), (2, .int x2)]) X.hx X.hb dX3_findBest_27 rfl hl (by decide) rfl (fun ls hl => ?_)
      refine lv_iconst (v := 0) X.hx X.hb dX3_findBest_28 (by decide) ?_
      refine lv_istore (lv' := [(4, .int (0 : Int32)), (3, .int (1000000 : Int32)), (0, .ref (gad G o 0)), (1, .ref (gad G q1 0)), (2, .int x2)]) X.hx X.hb dX3_findBest_29 hl (by decide) rfl (fun ls hl => ?_)
      exact bX3_findBest_31 X  ho  _ _ _ _ _ _ hq1 hf _ _ _ hH hS (lv_sub hl [2, 3, 4, 1, 0] rfl)
    · have hf := it_n hf c12
      refine lv_iload_n X.hx X.hb dX3_findBest_12 rfl (lv_at hl 2 rfl) ?_
      refine lv_aload_n X.hx X.hb dX3_findBest_13 rfl (lv_at hl 1 rfl) ?_
      refine gfX3_68 X hH hq1 dX3_findBest_14 ?_
      refine lv_imul X.hx X.hb dX3_findBest_17 ?_
      refine lv_istore_n (lv' := [(2, .int (x2 * (mI σ q1 1))), (0, .ref (gad G o 0)), (1, .ref (gad G q1 0)), (3, .int x3)]) X.hx X.hb dX3_findBest_18 rfl hl (by decide) rfl (fun ls hl => ?_)
      refine lv_iinc (v := x3 + 1) (lv' := [(3, .int (x3 + 1)), (2, .int (x2 * (mI σ q1 1))), (0, .ref (gad G o 0)), (1, .ref (gad G q1 0))]) X.hx X.hb dX3_findBest_19 hl (k := 3) rfl rfl (by decide) rfl (fun ls hl => ?_)
      refine lv_goto (tgt := 4) X.hx X.hb dX3_findBest_22 (by decide) ?_
      exact ih _ _ _ _ hq1 hf _ _ _ hH hS (lv_sub hl [2, 3, 1, 0] rfl)
set_option maxRecDepth 20000 in
set_option maxHeartbeats 4000000 in
theorem kX3_findBest (l : Launch) {G : gG} {σ : Mem} {r : Int32} {σ' : Mem} {o : Nat} {q1 : Nat} (ho : gsh G o = some 3) (hq1 : gsh G q1 = some 1) (hf : fX3_findBest σ o q1 = some (r, σ')) : CM l yX3_findBest cX3_findBest 6 (some .int) 2 47 G σ [.ref (gad G o 0), .ref (gad G q1 0)] (some (.int r)) σ' := by
  refine CM.of (by decide) (Nat.le_of_ble_eq_true rfl) (fun p e s m below meth c ls X hH hl => ?_)
  have X : gX p s m _ meth c yX3_findBest cX3_findBest 6 (some .int) RX3 G := X
  have hS : va_S (gAA G) s.heap s.heap [] := va_S.rf
  have hl : lv_has ls 6 [(0, .ref (gad G o 0)), (1, .ref (gad G q1 0))] := hl
  rw [fX3_findBest.eq_1] at hf
  refine lv_iconst (v := 1) X.hx X.hb dX3_findBest_0 (by decide) ?_
  refine lv_istore_n (lv' := [(2, .int (1 : Int32)), (0, .ref (gad G o 0)), (1, .ref (gad G q1 0))]) X.hx X.hb dX3_findBest_1 rfl hl (by decide) rfl (fun ls hl => ?_)
  refine lv_iconst (v := 0) X.hx X.hb dX3_findBest_2 (by decide) ?_
  refine lv_istore_n (lv' := [(3, .int (0 : Int32)), (2, .int (1 : Int32)), (0, .ref (gad G o 0)), (1, .ref (gad G q1 0))]) X.hx X.hb dX3_findBest_3 rfl hl (by decide) rfl (fun ls hl => ?_)
  exact bX3_findBest_4 X  ho  _ _ _ _ _ hq1 hf _ _ _ hH hS (lv_sub hl [2, 3, 1, 0] rfl)
set_option maxRecDepth 20000 in
set_option maxHeartbeats 4000000 in
theorem kX3_bestRowOf (l : Launch) {G : gG} {σ : Mem} {r : Int32} {σ' : Mem} {o : Nat} {q1 : Nat} {x2 : Int32} (ho : gsh G o = some 3) (hq1 : gsh G q1 = some 1) (hf : fX3_bestRowOf σ o q1 x2 = some (r, σ')) : CM l yX3_bestRowOf cX3_bestRowOf 3 (some .int) 2 47 G σ [.ref (gad G o 0), .ref (gad G q1 0), .int x2] (some (.int r)) σ' := by
  refine CM.of (by decide) (Nat.le_of_ble_eq_true rfl) (fun p e s m below meth c ls X hH hl => ?_)
  have X : gX p s m _ meth c yX3_bestRowOf cX3_bestRowOf 3 (some .int) RX3 G := X
  have hS : va_S (gAA G) s.heap s.heap [] := va_S.rf
  have hl : lv_has ls 3 [(0, .ref (gad G o 0)), (1, .ref (gad G q1 0)), (2, .int x2)] := hl
  rw [fX3_bestRowOf.eq_1] at hf
  refine lv_aload_n X.hx X.hb dX3_bestRowOf_0 rfl (lv_at hl 0 rfl) ?_
  refine lv_aload_n X.hx X.hb dX3_bestRowOf_1 rfl (lv_at hl 1 rfl) ?_
  refine lv_aload_n X.hx X.hb dX3_bestRowOf_2 rfl (lv_at hl 0 rfl) ?_
  refine gfX3_24 X hH ho dX3_bestRowOf_3 ?_
  obtain ⟨σ3, hr, hf⟩ := bd_e hf
  refine g_callVV (As := [.ref (gad G q1 0), .int (mI σ o 4)]) (rest := []) X (kX3_spread l ho hq1 hr) (C := RX3) (T := TX3) (N := 5) (ci := 3) rfl ho ⟨cdX3_spread, mlX3_72, imX3_spread, seX3_spread, iniX3⟩ hvX3_spread ⟨Nat.le_of_ble_eq_true rfl, Nat.le_of_ble_eq_true rfl⟩ hH hS hl rfl rfl (Nat.le_of_ble_eq_true rfl) ⟨Nat.le_refl 0, Nat.le_refl 0⟩ dX3_bestRowOf_6 (fun H locs hH hS => ?_)
  refine lv_aload_n X.hx X.hb dX3_bestRowOf_9 rfl (lv_at hl 0 rfl) ?_
  refine gfX3_15 X hH ho dX3_bestRowOf_10 ?_
  refine lv_iload_n X.hx X.hb dX3_bestRowOf_13 rfl (lv_at hl 2 rfl) ?_
  obtain ⟨r4, hr, hf⟩ := bd_e hf
  refine g_callNI (As := [.ref (gad G o (1 + 1)), .int x2]) (rest := []) X (kX5_rowWith l ⟨_, ho, rfl⟩ hr) X.hK.2.2.1 ⟨cdX5_rowWith, stX5_rowWith, iniX5⟩ hsX5_rowWith ⟨Nat.le_of_ble_eq_true rfl, Nat.le_of_ble_eq_true rfl⟩ hH hS hl rfl rfl (Nat.le_of_ble_eq_true rfl) ⟨Nat.le_refl 0, Nat.le_refl 0⟩ dX3_bestRowOf_14 (fun H locs hH hS => ?_)
  have e := so2 hf
  rw [e.2] at hH
  exact g_iret X hH hS rfl e.1 dX3_bestRowOf_17
set_option maxRecDepth 20000 in
set_option maxHeartbeats 4000000 in
theorem bX3_readFigures_19 {p : Program} {l : Launch} {e : Env} {s : State} {m : MethodId} {args : Array Value} {below : List Frame} {meth : Method} {c : Code} {G : gG} (X : gX p s m args meth c yX3_readFigures cX3_readFigures 6 (some .boolean) RX3 G) {o : Nat} (ho : gsh G o = some 3)  {r : Int32} {σ' : Mem} : (∀ (n : Nat) (σ : Mem) (q1 : Nat) (x3 : Int32) (x4 : Int32), gsh G q1 = some 1 → fX3_readFigures_19 o n σ q1 x3 x4 = some (r, σ') → ∀ (H : Heap) (locs : List Loc) (ls : Array Slot), gH G σ H → va_S (gAA G) s.heap H locs → lv_has ls 6 [(0, .ref (gad G o 0)), (1, .ref (gad G q1 0)), (3, .int x3), (4, .int x4)] → WB p l e 1 23 s m args below meth c G (some (.int r)) σ' H locs (F0 m 19 ls [])) := by
  intro n
  induction n with
  | zero => intro σ q1 x3 x4 hq1 hf H locs ls hH hS hl; exact nomatch (show (none : Option (Int32 × Mem)) = some _ from hf)
  | succ n ih =>
    intro σ q1 x3 x4 hq1 hf H locs ls hH hS hl
    rw [fX3_readFigures_19.eq_2] at hf
    refine lv_iload X.hx X.hb dX3_readFigures_19 (lv_at hl 3 rfl) ?_
    refine lv_aload_n X.hx X.hb dX3_readFigures_21 rfl (lv_at hl 1 rfl) ?_
    refine gfX3_28 X hH hq1 dX3_readFigures_22 ?_
    refine lv_icmp_ge (tgt := 70) X.hx X.hb dX3_readFigures_25 (by decide) (fun c8 => ?_) (fun c8 => ?_)
    · have hf := it_p hf c8
      refine lv_iload_n X.hx X.hb dX3_readFigures_70 rfl (lv_at hl 2 rfl) ?_
      refine lv_if_ne (tgt := 78) X.hx X.hb dX3_readFigures_71 (by decide) (fun c9 => ?_) (fun c9 => ?_)
      · have hf := it_n hf c9
        refine lv_iconst (v := 0) X.hx X.hb dX3_readFigures_78 (by decide) ?_
        have e := so2 hf
        rw [e.2] at hH
        exact g_zret X hH hS rfl e.1 (by decide) dX3_readFigures_79
      · have hf := it_p hf c9
        refine lv_iconst (v := 1) X.hx X.hb dX3_readFigures_74 (by decide) ?_
        refine lv_goto (tgt := 79) X.hx X.hb dX3_readFigures_75 (by decide) ?_
        have e := so2 hf
        rw [e.2] at hH
        exact g_zret X hH hS rfl e.1 (by decide) dX3_readFigures_79
    · have hf := it_n hf c8
      refine lv_iload_n X.hx X.hb dX3_readFigures_28 rfl (lv_at hl 2 rfl) ?_
      refine lv_bipush (v := 10) X.hx X.hb dX3_readFigures_29 (by decide) ?_
      refine lv_irem X.hx X.hb dX3_readFigures_31 (by decide) ?_
      refine lv_istore (lv' := [(5, .int (x3 - x3 / (10 : Int32) * (10 : Int32))), (0, .ref (gad G o 0)), (1, .ref (gad G q1 0)), (3, .int x3), (4, .int x4)]) X.hx X.hb dX3_readFigures_32 hl (by decide) rfl (fun ls hl => ?_)
      refine lv_aload_n X.hx X.hb dX3_readFigures_34 rfl (lv_at hl 2 rfl) ?_
      refine lv_iload X.hx X.hb dX3_readFigures_35 (lv_at hl 0 rfl) ?_
      obtain ⟨r10, hr, hf⟩ := bd_e hf
      refine g_callVI (As := [.int (x3 - x3 / (10 : Int32) * (10 : Int32))]) (rest := []) X (kX1_hasRow l hq1 hr) (C := RX1) (T := TX1) (N := 11) (ci := 1) rfl hq1 ⟨cdX1_hasRow, mlX3_90, imX1_hasRow, seX1_hasRow, iniX1⟩ hvX1_hasRow ⟨Nat.le_of_ble_eq_true rfl, Nat.le_of_ble_eq_true rfl⟩ hH hS hl rfl rfl (Nat.le_of_ble_eq_true rfl) ⟨Nat.le_refl 0, Nat.le_refl 0⟩ dX3_readFigures_37 (fun H locs hH hS => ?_)
      refine lv_if_ne (tgt := 45) X.hx X.hb dX3_readFigures_40 (by decide) (fun c11 => ?_) (fun c11 => ?_)
      · have hf := it_n hf c11
        refine lv_aload_n X.hx X.hb dX3_readFigures_45 rfl (lv_at hl 1 rfl) ?_
        refine gfX3_15 X hH ho dX3_readFigures_46 ?_
        refine lv_iload X.hx X.hb dX3_readFigures_49 (lv_at hl 0 rfl) ?_
        refine lv_dup2_11 X.hx X.hb dX3_readFigures_51 rfl rfl ?_
        obtain ⟨hg, hf⟩ := gd_e hf
        refine g_iald X hH ⟨_, ho, rfl⟩ hg dX3_readFigures_52 ?_
        refine lv_iconst (v := 1) X.hx X.hb dX3_readFigures_53 (by decide) ?_
        refine lv_iload X.hx X.hb dX3_readFigures_54 (lv_at hl 4 rfl) ?_
        refine lv_ishl X.hx X.hb dX3_readFigures_56 ?_
        refine lv_ior X.hx X.hb dX3_readFigures_57 ?_
        obtain ⟨hg, hf⟩ := gd_e hf
        refine g_iast X hH hS ⟨_, ho, rfl⟩ hg dX3_readFigures_58 (fun H locs hH hS => ?_)
        obtain ⟨σ12, he, hf⟩ := stp_e hf
        rw [← he] at hH
        clear he
        refine lv_iload_n X.hx X.hb dX3_readFigures_59 rfl (lv_at hl 3 rfl) ?_
        refine lv_bipush (v := 10) X.hx X.hb dX3_readFigures_60 (by decide) ?_
        refine lv_idiv X.hx X.hb dX3_readFigures_62 (by decide) ?_
        refine lv_istore_n (lv' := [(3, .int (x3 / (10 : Int32))), (5, .int (x3 - x3 / (10 : Int32) * (10 : Int32))), (0, .ref (gad G o 0)), (1, .ref (gad G q1 0)), (4, .int x4)]) X.hx X.hb dX3_readFigures_63 rfl hl (by decide) rfl (fun ls hl => ?_)
        refine lv_iinc (v := x4 + 1) (lv' := [(4, .int (x4 + 1)), (3, .int (x3 / (10 : Int32))), (5, .int (x3 - x3 / (10 : Int32) * (10 : Int32))), (0, .ref (gad G o 0)), (1, .ref (gad G q1 0))]) X.hx X.hb dX3_readFigures_64 hl (k := 4) rfl rfl (by decide) rfl (fun ls hl => ?_)
        refine lv_goto (tgt := 19) X.hx X.hb dX3_readFigures_67 (by decide) ?_
        exact ih _ _ _ _ hq1 hf _ _ _ hH hS (lv_sub hl [3, 4, 1, 0] rfl)
      · have hf := it_p hf c11
        refine lv_iconst (v := 0) X.hx X.hb dX3_readFigures_43 (by decide) ?_
        have e := so2 hf
        rw [e.2] at hH
        exact g_zret X hH hS rfl e.1 (by decide) dX3_readFigures_44
set_option maxRecDepth 20000 in
set_option maxHeartbeats 4000000 in
theorem kX3_readFigures (l : Launch) {G : gG} {σ : Mem} {r : Int32} {σ' : Mem} {o : Nat} {q1 : Nat} {x2 : Int32} (ho : gsh G o = some 3) (hq1 : gsh G q1 = some 1) (hf : fX3_readFigures σ o q1 x2 = some (r, σ')) : CM l yX3_readFigures cX3_readFigures 6 (some .boolean) 1 23 G σ [.ref (gad G o 0), .ref (gad G q1 0), .int x2] (some (.int r)) σ' := by
  refine CM.of (by decide) (Nat.le_of_ble_eq_true rfl) (fun p e s m below meth c ls X hH hl => ?_)
  have X : gX p s m _ meth c yX3_readFigures cX3_readFigures 6 (some .boolean) RX3 G := X
  have hS : va_S (gAA G) s.heap s.heap [] := va_S.rf
  have hl : lv_has ls 6 [(0, .ref (gad G o 0)), (1, .ref (gad G q1 0)), (2, .int x2)] := hl
  rw [fX3_readFigures.eq_1] at hf
  refine lv_iload_n X.hx X.hb dX3_readFigures_0 rfl (lv_at hl 2 rfl) ?_
  refine lv_if_ge (tgt := 6) X.hx X.hb dX3_readFigures_1 (by decide) (fun c13 => ?_) (fun c13 => ?_)
  · have hf := it_p hf c13
    refine lv_aload_n X.hx X.hb dX3_readFigures_6 rfl (lv_at hl 0 rfl) ?_
    refine gfX3_15 X hH ho dX3_readFigures_7 ?_
    refine lv_iconst (v := 0) X.hx X.hb dX3_readFigures_10 (by decide) ?_
    obtain ⟨σ14, hr, hf⟩ := bd_e hf
    refine g_callSV (As := [.ref (gad G o (1 + 1)), .int (0 : Int32)]) (rest := []) X (kJ7_fill_53178 l ⟨_, ho, rfl⟩ hr) ⟨cdJ7_fill_53178, mlX3_84, stJ7_fill_53178, iniJ7⟩ hsJ7_fill_53178 ⟨Nat.le_of_ble_eq_true rfl, Nat.le_of_ble_eq_true rfl⟩ hH hS hl rfl rfl (Nat.le_of_ble_eq_true rfl) ⟨Nat.le_refl 0, Nat.le_refl 0⟩ dX3_readFigures_11 (fun H locs hH hS => ?_)
    refine lv_iload_n X.hx X.hb dX3_readFigures_14 rfl (lv_at hl 2 rfl) ?_
    refine lv_istore_n (lv' := [(3, .int x2), (0, .ref (gad G o 0)), (1, .ref (gad G q1 0)), (2, .int x2)]) X.hx X.hb dX3_readFigures_15 rfl hl (by decide) rfl (fun ls hl => ?_)
    refine lv_iconst (v := 0) X.hx X.hb dX3_readFigures_16 (by decide) ?_
    refine lv_istore (lv' := [(4, .int (0 : Int32)), (3, .int x2), (0, .ref (gad G o 0)), (1, .ref (gad G q1 0)), (2, .int x2)]) X.hx X.hb dX3_readFigures_17 hl (by decide) rfl (fun ls hl => ?_)
    exact bX3_readFigures_19 X  ho  _ _ _ _ _ hq1 hf _ _ _ hH hS (lv_sub hl [2, 3, 1, 0] rfl)
  · have hf := it_n hf c13
    refine lv_iconst (v := 0) X.hx X.hb dX3_readFigures_4 (by decide) ?_
    have e := so2 hf
    rw [e.2] at hH
    exact g_zret X hH hS rfl e.1 (by decide) dX3_readFigures_5
set_option maxRecDepth 20000 in
set_option maxHeartbeats 4000000 in
theorem kX4_append (l : Launch) {G : gG} {σ : Mem} {r : Int32} {σ' : Mem} {o : Nat} {x1 : Int32} (ho : gsh G o = some 4)  (hf : fX4_append σ o x1 = some (r, σ')) : CM l yX4_append cX4_append 2 (some .boolean) 0 0 G σ [.ref (gad G o 0), .int x1] (some (.int r)) σ' := by
  refine CM.of (by decide) (Nat.le_of_ble_eq_true rfl) (fun p e s m below meth c ls X hH hl => ?_)
  have X : gX p s m _ meth c yX4_append cX4_append 2 (some .boolean) RX4 G := X
  have hS : va_S (gAA G) s.heap s.heap [] := va_S.rf
  have hl : lv_has ls 2 [(0, .ref (gad G o 0)), (1, .int x1)] := hl
  rw [fX4_append.eq_1] at hf
  refine lv_aload_n X.hx X.hb dX4_append_0 rfl (lv_at hl 0 rfl) ?_
  refine gfX4_9 X hH ho dX4_append_1 ?_
  refine lv_sipush (v := 200) X.hx X.hb dX4_append_4 (by decide) ?_
  refine lv_icmp_lt (tgt := 12) X.hx X.hb dX4_append_7 (by decide) (fun c4 => ?_) (fun c4 => ?_)
  · have hf := it_p hf c4
    refine lv_aload_n X.hx X.hb dX4_append_12 rfl (lv_at hl 0 rfl) ?_
    refine gfX4_15 X hH ho dX4_append_13 ?_
    refine lv_aload_n X.hx X.hb dX4_append_16 rfl (lv_at hl 0 rfl) ?_
    refine gfX4_9 X hH ho dX4_append_17 ?_
    refine lv_iload_n X.hx X.hb dX4_append_20 rfl (lv_at hl 1 rfl) ?_
    obtain ⟨hg, hf⟩ := gd_e hf
    refine g_iast X hH hS ⟨_, ho, rfl⟩ hg dX4_append_21 (fun H locs hH hS => ?_)
    obtain ⟨σ5, he, hf⟩ := stp_e hf
    rw [← he] at hH
    clear he
    refine lv_aload_n X.hx X.hb dX4_append_22 rfl (lv_at hl 0 rfl) ?_
    refine lv_dup X.hx X.hb dX4_append_23 rfl ?_
    refine gfX4_9 X hH ho dX4_append_24 ?_
    refine lv_iconst (v := 1) X.hx X.hb dX4_append_27 (by decide) ?_
    refine lv_iadd X.hx X.hb dX4_append_28 ?_
    refine pfX4_9 X hH hS ho  dX4_append_29 (fun H locs hH hS => ?_)
    obtain ⟨σ6, he, hf⟩ := stp_e hf
    rw [← he] at hH
    clear he
    refine lv_iconst (v := 1) X.hx X.hb dX4_append_32 (by decide) ?_
    have e := so2 hf
    rw [e.2] at hH
    exact g_zret X hH hS rfl e.1 (by decide) dX4_append_33
  · have hf := it_n hf c4
    refine lv_iconst (v := 0) X.hx X.hb dX4_append_10 (by decide) ?_
    have e := so2 hf
    rw [e.2] at hH
    exact g_zret X hH hS rfl e.1 (by decide) dX4_append_11
set_option maxRecDepth 20000 in
set_option maxHeartbeats 4000000 in
theorem kX4_isFigure (l : Launch) {G : gG} {σ : Mem} {r : Int32} {x0 : Int32}  (hf : fX4_isFigure x0 = some r) : CM l yX4_isFigure cX4_isFigure 1 (some .boolean) 0 0 G σ [.int x0] (some (.int r)) σ := by
  refine CM.of (by decide) (Nat.le_of_ble_eq_true rfl) (fun p e s m below meth c ls X hH hl => ?_)
  have X : gX p s m _ meth c yX4_isFigure cX4_isFigure 1 (some .boolean) RX4 G := X
  have hS : va_S (gAA G) s.heap s.heap [] := va_S.rf
  have hl : lv_has ls 1 [(0, .int x0)] := hl
  rw [fX4_isFigure.eq_1] at hf
  refine lv_iload_n X.hx X.hb dX4_isFigure_0 rfl (lv_at hl 0 rfl) ?_
  refine lv_bipush (v := 48) X.hx X.hb dX4_isFigure_1 (by decide) ?_
  refine lv_icmp_lt (tgt := 16) X.hx X.hb dX4_isFigure_3 (by decide) (fun c3 => ?_) (fun c3 => ?_)
  · have hf := it_p hf c3
    refine lv_iconst (v := 0) X.hx X.hb dX4_isFigure_16 (by decide) ?_
    exact g_zret X hH hS rfl (so1 hf) (by decide) dX4_isFigure_17
  · have hf := it_n hf c3
    refine lv_iload_n X.hx X.hb dX4_isFigure_6 rfl (lv_at hl 0 rfl) ?_
    refine lv_bipush (v := 57) X.hx X.hb dX4_isFigure_7 (by decide) ?_
    refine lv_icmp_gt (tgt := 16) X.hx X.hb dX4_isFigure_9 (by decide) (fun c4 => ?_) (fun c4 => ?_)
    · have hf := it_p hf c4
      refine lv_iconst (v := 0) X.hx X.hb dX4_isFigure_16 (by decide) ?_
      exact g_zret X hH hS rfl (so1 hf) (by decide) dX4_isFigure_17
    · have hf := it_n hf c4
      refine lv_iconst (v := 1) X.hx X.hb dX4_isFigure_12 (by decide) ?_
      refine lv_goto (tgt := 17) X.hx X.hb dX4_isFigure_13 (by decide) ?_
      exact g_zret X hH hS rfl (so1 hf) (by decide) dX4_isFigure_17
set_option maxRecDepth 20000 in
set_option maxHeartbeats 4000000 in
theorem kX4_isTokenLetter (l : Launch) {G : gG} {σ : Mem} {r : Int32} {x0 : Int32}  (hf : fX4_isTokenLetter x0 = some r) : CM l yX4_isTokenLetter cX4_isTokenLetter 1 (some .boolean) 0 0 G σ [.int x0] (some (.int r)) σ := by
  refine CM.of (by decide) (Nat.le_of_ble_eq_true rfl) (fun p e s m below meth c ls X hH hl => ?_)
  have X : gX p s m _ meth c yX4_isTokenLetter cX4_isTokenLetter 1 (some .boolean) RX4 G := X
  have hS : va_S (gAA G) s.heap s.heap [] := va_S.rf
  have hl : lv_has ls 1 [(0, .int x0)] := hl
  rw [fX4_isTokenLetter.eq_1] at hf
  refine lv_iload_n X.hx X.hb dX4_isTokenLetter_0 rfl (lv_at hl 0 rfl) ?_
  refine lv_bipush (v := 113) X.hx X.hb dX4_isTokenLetter_1 (by decide) ?_
  refine lv_icmp_eq (tgt := 36) X.hx X.hb dX4_isTokenLetter_3 (by decide) (fun c7 => ?_) (fun c7 => ?_)
  · have hf := it_p hf c7
    refine lv_iconst (v := 1) X.hx X.hb dX4_isTokenLetter_36 (by decide) ?_
    refine lv_goto (tgt := 41) X.hx X.hb dX4_isTokenLetter_37 (by decide) ?_
    exact g_zret X hH hS rfl (so1 hf) (by decide) dX4_isTokenLetter_41
  · have hf := it_n hf c7
    refine lv_iload_n X.hx X.hb dX4_isTokenLetter_6 rfl (lv_at hl 0 rfl) ?_
    refine lv_bipush (v := 114) X.hx X.hb dX4_isTokenLetter_7 (by decide) ?_
    refine lv_icmp_eq (tgt := 36) X.hx X.hb dX4_isTokenLetter_9 (by decide) (fun c8 => ?_) (fun c8 => ?_)
    · have hf := it_p hf c8
      refine lv_iconst (v := 1) X.hx X.hb dX4_isTokenLetter_36 (by decide) ?_
      refine lv_goto (tgt := 41) X.hx X.hb dX4_isTokenLetter_37 (by decide) ?_
      exact g_zret X hH hS rfl (so1 hf) (by decide) dX4_isTokenLetter_41
    · have hf := it_n hf c8
      refine lv_iload_n X.hx X.hb dX4_isTokenLetter_12 rfl (lv_at hl 0 rfl) ?_
      refine lv_bipush (v := 98) X.hx X.hb dX4_isTokenLetter_13 (by decide) ?_
      refine lv_icmp_eq (tgt := 36) X.hx X.hb dX4_isTokenLetter_15 (by decide) (fun c9 => ?_) (fun c9 => ?_)
      · have hf := it_p hf c9
        refine lv_iconst (v := 1) X.hx X.hb dX4_isTokenLetter_36 (by decide) ?_
        refine lv_goto (tgt := 41) X.hx X.hb dX4_isTokenLetter_37 (by decide) ?_
        exact g_zret X hH hS rfl (so1 hf) (by decide) dX4_isTokenLetter_41
      · have hf := it_n hf c9
        refine lv_iload_n X.hx X.hb dX4_isTokenLetter_18 rfl (lv_at hl 0 rfl) ?_
        refine lv_bipush (v := 116) X.hx X.hb dX4_isTokenLetter_19 (by decide) ?_
        refine lv_icmp_eq (tgt := 36) X.hx X.hb dX4_isTokenLetter_21 (by decide) (fun c10 => ?_) (fun c10 => ?_)
        · have hf := it_p hf c10
          refine lv_iconst (v := 1) X.hx X.hb dX4_isTokenLetter_36 (by decide) ?_
          refine lv_goto (tgt := 41) X.hx X.hb dX4_isTokenLetter_37 (by decide) ?_
          exact g_zret X hH hS rfl (so1 hf) (by decide) dX4_isTokenLetter_41
        · have hf := it_n hf c10
          refine lv_iload_n X.hx X.hb dX4_isTokenLetter_24 rfl (lv_at hl 0 rfl) ?_
          refine lv_bipush (v := 107) X.hx X.hb dX4_isTokenLetter_25 (by decide) ?_
          refine lv_icmp_eq (tgt := 36) X.hx X.hb dX4_isTokenLetter_27 (by decide) (fun c11 => ?_) (fun c11 => ?_)
          · have hf := it_p hf c11
            refine lv_iconst (v := 1) X.hx X.hb dX4_isTokenLetter_36 (by decide) ?_
            refine lv_goto (tgt := 41) X.hx X.hb dX4_isTokenLetter_37 (by decide) ?_
            exact g_zret X hH hS rfl (so1 hf) (by decide) dX4_isTokenLetter_41
          · have hf := it_n hf c11
            refine lv_iload_n X.hx X.hb dX4_isTokenLetter_30 rfl (lv_at hl 0 rfl) ?_
            refine lv_bipush (v := 59) X.hx X.hb dX4_isTokenLetter_31 (by decide) ?_
            refine lv_icmp_ne (tgt := 40) X.hx X.hb dX4_isTokenLetter_33 (by decide) (fun c12 => ?_) (fun c12 => ?_)
            · have hf := it_n hf c12
              refine lv_iconst (v := 0) X.hx X.hb dX4_isTokenLetter_40 (by decide) ?_
              exact g_zret X hH hS rfl (so1 hf) (by decide) dX4_isTokenLetter_41
            · have hf := it_p hf c12
              refine lv_iconst (v := 1) X.hx X.hb dX4_isTokenLetter_36 (by decide) ?_
              refine lv_goto (tgt := 41) X.hx X.hb dX4_isTokenLetter_37 (by decide) ?_
              exact g_zret X hH hS rfl (so1 hf) (by decide) dX4_isTokenLetter_41
set_option maxRecDepth 20000 in
set_option maxHeartbeats 4000000 in
theorem bX4_readNumber_114 {p : Program} {l : Launch} {e : Env} {s : State} {m : MethodId} {args : Array Value} {below : List Frame} {meth : Method} {c : Code} {G : gG} (X : gX p s m args meth c yX4_readNumber cX4_readNumber 2 none RX4 G) {o : Nat} (ho : gsh G o = some 4)  {σ' : Mem} : (∀ (σ : Mem) (xs0 : Int32), fX4_readNumber_114 o σ xs0 = some σ' → ∀ (H : Heap) (locs : List Loc) (ls : Array Slot), gH G σ H → va_S (gAA G) s.heap H locs → lv_has ls 2 [(0, .ref (gad G o 0))] → WB p l e 1 21 s m args below meth c G none σ' H locs (F0 m 114 ls [.int xs0])) := by
  intro σ xs0 hf H locs ls hH hS hl
  rw [fX4_readNumber_114.eq_1] at hf
  refine lv_istore_n (lv' := [(1, .int xs0), (0, .ref (gad G o 0))]) X.hx X.hb dX4_readNumber_114 rfl hl (by decide) rfl (fun ls hl => ?_)
  refine lv_aload_n X.hx X.hb dX4_readNumber_115 rfl (lv_at hl 1 rfl) ?_
  refine lv_iload_n X.hx X.hb dX4_readNumber_116 rfl (lv_at hl 0 rfl) ?_
  refine lv_if_ne (tgt := 130) X.hx X.hb dX4_readNumber_117 (by decide) (fun c15 => ?_) (fun c15 => ?_)
  · have hf := it_n hf c15
    refine lv_iconst (v := 2) X.hx X.hb dX4_readNumber_130 (by decide) ?_
    refine lv_goto (tgt := 135) X.hx X.hb dX4_readNumber_131 (by decide) ?_
    refine pfX4_19 X hH hS ho  dX4_readNumber_135 (fun H locs hH hS => ?_)
    obtain ⟨σ16, he, hf⟩ := stp_e hf
    rw [← he] at hH
    clear he
    have e := so1 hf
    rw [e] at hH
    exact g_vret X hH hS rfl dX4_readNumber_138
  · have hf := it_p hf c15
    refine lv_aload_n X.hx X.hb dX4_readNumber_120 rfl (lv_at hl 1 rfl) ?_
    refine gfX4_28 X hH ho dX4_readNumber_121 ?_
    refine lv_sipush (v := 1023) X.hx X.hb dX4_readNumber_124 (by decide) ?_
    refine lv_icmp_le (tgt := 134) X.hx X.hb dX4_readNumber_127 (by decide) (fun c17 => ?_) (fun c17 => ?_)
    · have hf := it_p hf c17
      refine lv_iconst (v := 1) X.hx X.hb dX4_readNumber_134 (by decide) ?_
      refine pfX4_19 X hH hS ho  dX4_readNumber_135 (fun H locs hH hS => ?_)
      obtain ⟨σ18, he, hf⟩ := stp_e hf
      rw [← he] at hH
      clear he
      have e := so1 hf
      rw [e] at hH
      exact g_vret X hH hS rfl dX4_readNumber_138
    · have hf := it_n hf c17
      refine lv_iconst (v := 2) X.hx X.hb dX4_readNumber_130 (by decide) ?_
      refine lv_goto (tgt := 135) X.hx X.hb dX4_readNumber_131 (by decide) ?_
      refine pfX4_19 X hH hS ho  dX4_readNumber_135 (fun H locs hH hS => ?_)
      obtain ⟨σ19, he, hf⟩ := stp_e hf
      rw [← he] at hH
      clear he
      have e := so1 hf
      rw [e] at hH
      exact g_vret X hH hS rfl dX4_readNumber_138
set_option maxRecDepth 20000 in
set_option maxHeartbeats 4000000 in
theorem bX4_readNumber_82 {p : Program} {l : Launch} {e : Env} {s : State} {m : MethodId} {args : Array Value} {below : List Frame} {meth : Method} {c : Code} {G : gG} (X : gX p s m args meth c yX4_readNumber cX4_readNumber 2 none RX4 G) {o : Nat} (ho : gsh G o = some 4)  {σ' : Mem} : (∀ (σ : Mem), fX4_readNumber_82 o σ = some σ' → ∀ (H : Heap) (locs : List Loc) (ls : Array Slot), gH G σ H → va_S (gAA G) s.heap H locs → lv_has ls 2 [(0, .ref (gad G o 0))] → WB p l e 1 21 s m args below meth c G none σ' H locs (F0 m 82 ls [])) := by
  intro σ hf H locs ls hH hS hl
  rw [fX4_readNumber_82.eq_1] at hf
  refine lv_aload_n X.hx X.hb dX4_readNumber_82 rfl (lv_at hl 0 rfl) ?_
  refine gfX4_15 X hH ho dX4_readNumber_83 ?_
  refine lv_aload_n X.hx X.hb dX4_readNumber_86 rfl (lv_at hl 0 rfl) ?_
  refine gfX4_22 X hH ho dX4_readNumber_87 ?_
  obtain ⟨hg, hf⟩ := gd_e hf
  refine g_iald X hH ⟨_, ho, rfl⟩ hg dX4_readNumber_90 ?_
  refine lv_bipush (v := 48) X.hx X.hb dX4_readNumber_91 (by decide) ?_
  refine lv_icmp_ne (tgt := 113) X.hx X.hb dX4_readNumber_93 (by decide) (fun c20 => ?_) (fun c20 => ?_)
  · have hf := it_n hf c20
    refine lv_iconst (v := 0) X.hx X.hb dX4_readNumber_113 (by decide) ?_
    exact bX4_readNumber_114 X  ho   _ _  hf _ _ _ hH hS (lv_sub hl [0] rfl)
  · have hf := it_p hf c20
    refine lv_aload_n X.hx X.hb dX4_readNumber_96 rfl (lv_at hl 0 rfl) ?_
    refine gfX4_25 X hH ho dX4_readNumber_97 ?_
    refine lv_aload_n X.hx X.hb dX4_readNumber_100 rfl (lv_at hl 0 rfl) ?_
    refine gfX4_22 X hH ho dX4_readNumber_101 ?_
    refine lv_isub X.hx X.hb dX4_readNumber_104 ?_
    refine lv_iconst (v := 1) X.hx X.hb dX4_readNumber_105 (by decide) ?_
    refine lv_icmp_le (tgt := 113) X.hx X.hb dX4_readNumber_106 (by decide) (fun c21 => ?_) (fun c21 => ?_)
    · have hf := it_p hf c21
      refine lv_iconst (v := 0) X.hx X.hb dX4_readNumber_113 (by decide) ?_
      exact bX4_readNumber_114 X  ho   _ _  hf _ _ _ hH hS (lv_sub hl [0] rfl)
    · have hf := it_n hf c21
      refine lv_iconst (v := 1) X.hx X.hb dX4_readNumber_109 (by decide) ?_
      refine lv_goto (tgt := 114) X.hx X.hb dX4_readNumber_110 (by decide) ?_
      exact bX4_readNumber_114 X  ho   _ _  hf _ _ _ hH hS (lv_sub hl [0] rfl)
set_option maxRecDepth 20000 in
set_option maxHeartbeats 4000000 in
theorem bX4_readNumber_13 {p : Program} {l : Launch} {e : Env} {s : State} {m : MethodId} {args : Array Value} {below : List Frame} {meth : Method} {c : Code} {G : gG} (X : gX p s m args meth c yX4_readNumber cX4_readNumber 2 none RX4 G) {o : Nat} (ho : gsh G o = some 4)  {σ' : Mem} : (∀ (n : Nat) (σ : Mem), fX4_readNumber_13 o n σ = some σ' → ∀ (H : Heap) (locs : List Loc) (ls : Array Slot), gH G σ H → va_S (gAA G) s.heap H locs → lv_has ls 2 [(0, .ref (gad G o 0))] → WB p l e 1 21 s m args below meth c G none σ' H locs (F0 m 13 ls [])) := by
  intro n
  induction n with
  | zero => intro σ hf H locs ls hH hS hl; exact nomatch (show (none : Option Mem) = some _ from hf)
  | succ n ih =>
    intro σ hf H locs ls hH hS hl
    rw [fX4_readNumber_13.eq_2] at hf
    refine lv_aload_n X.hx X.hb dX4_readNumber_13 rfl (lv_at hl 0 rfl) ?_
    refine gfX4_25 X hH ho dX4_readNumber_14 ?_
    refine lv_aload_n X.hx X.hb dX4_readNumber_17 rfl (lv_at hl 0 rfl) ?_
    refine gfX4_9 X hH ho dX4_readNumber_18 ?_
    refine lv_icmp_ge (tgt := 82) X.hx X.hb dX4_readNumber_21 (by decide) (fun c22 => ?_) (fun c22 => ?_)
    · have hf := it_p hf c22
      exact bX4_readNumber_82 X  ho   _  hf _ _ _ hH hS (lv_sub hl [0] rfl)
    · have hf := it_n hf c22
      refine lv_aload_n X.hx X.hb dX4_readNumber_24 rfl (lv_at hl 0 rfl) ?_
      refine gfX4_15 X hH ho dX4_readNumber_25 ?_
      refine lv_aload_n X.hx X.hb dX4_readNumber_28 rfl (lv_at hl 0 rfl) ?_
      refine gfX4_25 X hH ho dX4_readNumber_29 ?_
      obtain ⟨hg, hf⟩ := gd_e hf
      refine g_iald X hH ⟨_, ho, rfl⟩ hg dX4_readNumber_32 ?_
      obtain ⟨r23, hr, hf⟩ := bd_e hf
      refine g_callSI (As := [.int (mA σ o 1 (mI σ o 4).toNatClampNeg)]) (rest := []) X (kX4_isFigure l  hr) ⟨cdX4_isFigure, mlX4_95, stX4_isFigure, iniX4⟩ hsX4_isFigure ⟨Nat.le_of_ble_eq_true rfl, Nat.le_of_ble_eq_true rfl⟩ hH hS hl rfl rfl (Nat.le_of_ble_eq_true rfl) ⟨Nat.le_refl 0, Nat.le_refl 0⟩ dX4_readNumber_33 (fun H locs hH hS => ?_)
      refine lv_if_eq (tgt := 82) X.hx X.hb dX4_readNumber_36 (by decide) (fun c24 => ?_) (fun c24 => ?_)
      · have hf := it_p hf c24
        exact bX4_readNumber_82 X  ho   _  hf _ _ _ hH hS (lv_sub hl [0] rfl)
      · have hf := it_n hf c24
        refine lv_aload_n X.hx X.hb dX4_readNumber_39 rfl (lv_at hl 0 rfl) ?_
        refine lv_aload_n X.hx X.hb dX4_readNumber_40 rfl (lv_at hl 0 rfl) ?_
        refine gfX4_28 X hH ho dX4_readNumber_41 ?_
        refine lv_bipush (v := 10) X.hx X.hb dX4_readNumber_44 (by decide) ?_
        refine lv_imul X.hx X.hb dX4_readNumber_46 ?_
        refine lv_aload_n X.hx X.hb dX4_readNumber_47 rfl (lv_at hl 0 rfl) ?_
        refine gfX4_15 X hH ho dX4_readNumber_48 ?_
        refine lv_aload_n X.hx X.hb dX4_readNumber_51 rfl (lv_at hl 0 rfl) ?_
        refine gfX4_25 X hH ho dX4_readNumber_52 ?_
        obtain ⟨hg, hf⟩ := gd_e hf
        refine g_iald X hH ⟨_, ho, rfl⟩ hg dX4_readNumber_55 ?_
        refine lv_iadd X.hx X.hb dX4_readNumber_56 ?_
        refine lv_bipush (v := 48) X.hx X.hb dX4_readNumber_57 (by decide) ?_
        refine lv_isub X.hx X.hb dX4_readNumber_59 ?_
        refine lv_sipush (v := 1024) X.hx X.hb dX4_readNumber_60 (by decide) ?_
        refine g_min X hl mlX4_105 (Nat.le_of_ble_eq_true rfl) (Nat.le_of_ble_eq_true rfl) ⟨Nat.le_refl 0, Nat.le_refl 0⟩ dX4_readNumber_63 ?_
        refine pfX4_28 X hH hS ho  dX4_readNumber_66 (fun H locs hH hS => ?_)
        obtain ⟨σ25, he, hf⟩ := stp_e hf
        rw [← he] at hH
        clear he
        refine lv_aload_n X.hx X.hb dX4_readNumber_69 rfl (lv_at hl 0 rfl) ?_
        refine lv_dup X.hx X.hb dX4_readNumber_70 rfl ?_
        refine gfX4_25 X hH ho dX4_readNumber_71 ?_
        refine lv_iconst (v := 1) X.hx X.hb dX4_readNumber_74 (by decide) ?_
        refine lv_iadd X.hx X.hb dX4_readNumber_75 ?_
        refine pfX4_25 X hH hS ho  dX4_readNumber_76 (fun H locs hH hS => ?_)
        obtain ⟨σ26, he, hf⟩ := stp_e hf
        rw [← he] at hH
        clear he
        refine lv_goto (tgt := 13) X.hx X.hb dX4_readNumber_79 (by decide) ?_
        exact ih _  hf _ _ _ hH hS (lv_sub hl [0] rfl)
set_option maxRecDepth 20000 in
set_option maxHeartbeats 4000000 in
theorem kX4_readNumber (l : Launch) {G : gG} {σ : Mem} {σ' : Mem} {o : Nat} (ho : gsh G o = some 4)  (hf : fX4_readNumber σ o = some σ') : CM l yX4_readNumber cX4_readNumber 2 none 1 21 G σ [.ref (gad G o 0)] none σ' := by
  refine CM.of (by decide) (Nat.le_of_ble_eq_true rfl) (fun p e s m below meth c ls X hH hl => ?_)
  have X : gX p s m _ meth c yX4_readNumber cX4_readNumber 2 none RX4 G := X
  have hS : va_S (gAA G) s.heap s.heap [] := va_S.rf
  have hl : lv_has ls 2 [(0, .ref (gad G o 0))] := hl
  rw [fX4_readNumber.eq_1] at hf
  refine lv_aload_n X.hx X.hb dX4_readNumber_0 rfl (lv_at hl 0 rfl) ?_
  refine lv_iconst (v := 0) X.hx X.hb dX4_readNumber_1 (by decide) ?_
  refine pfX4_28 X hH hS ho  dX4_readNumber_2 (fun H locs hH hS => ?_)
  obtain ⟨σ27, he, hf⟩ := stp_e hf
  rw [← he] at hH
  clear he
  refine lv_aload_n X.hx X.hb dX4_readNumber_5 rfl (lv_at hl 0 rfl) ?_
  refine lv_aload_n X.hx X.hb dX4_readNumber_6 rfl (lv_at hl 0 rfl) ?_
  refine gfX4_22 X hH ho dX4_readNumber_7 ?_
  refine pfX4_25 X hH hS ho  dX4_readNumber_10 (fun H locs hH hS => ?_)
  obtain ⟨σ28, he, hf⟩ := stp_e hf
  rw [← he] at hH
  clear he
  exact bX4_readNumber_13 X  ho  _ _  hf _ _ _ hH hS (lv_sub hl [0] rfl)
set_option maxRecDepth 20000 in
set_option maxHeartbeats 4000000 in
theorem bX4_nextToken_46 {p : Program} {l : Launch} {e : Env} {s : State} {m : MethodId} {args : Array Value} {below : List Frame} {meth : Method} {c : Code} {G : gG} (X : gX p s m args meth c yX4_nextToken cX4_nextToken 1 none RX4 G) {o : Nat} (ho : gsh G o = some 4)  {σ' : Mem} : (∀ (σ : Mem), fX4_nextToken_46 o σ = some σ' → ∀ (H : Heap) (locs : List Loc) (ls : Array Slot), gH G σ H → va_S (gAA G) s.heap H locs → lv_has ls 1 [(0, .ref (gad G o 0))] → WB p l e 2 42 s m args below meth c G none σ' H locs (F0 m 46 ls [])) := by
  intro σ hf H locs ls hH hS hl
  rw [fX4_nextToken_46.eq_1] at hf
  refine lv_aload_n X.hx X.hb dX4_nextToken_46 rfl (lv_at hl 0 rfl) ?_
  refine gfX4_22 X hH ho dX4_nextToken_47 ?_
  refine lv_aload_n X.hx X.hb dX4_nextToken_50 rfl (lv_at hl 0 rfl) ?_
  refine gfX4_9 X hH ho dX4_nextToken_51 ?_
  refine lv_icmp_lt (tgt := 73) X.hx X.hb dX4_nextToken_54 (by decide) (fun c17 => ?_) (fun c17 => ?_)
  · have hf := it_p hf c17
    refine lv_aload_n X.hx X.hb dX4_nextToken_73 rfl (lv_at hl 0 rfl) ?_
    refine gfX4_15 X hH ho dX4_nextToken_74 ?_
    refine lv_aload_n X.hx X.hb dX4_nextToken_77 rfl (lv_at hl 0 rfl) ?_
    refine gfX4_22 X hH ho dX4_nextToken_78 ?_
    obtain ⟨hg, hf⟩ := gd_e hf
    refine g_iald X hH ⟨_, ho, rfl⟩ hg dX4_nextToken_81 ?_
    obtain ⟨r18, hr, hf⟩ := bd_e hf
    refine g_callSI (As := [.int (mA σ o 1 (mI σ o 3).toNatClampNeg)]) (rest := []) X (kX4_isFigure l  hr) ⟨cdX4_isFigure, mlX4_95, stX4_isFigure, iniX4⟩ hsX4_isFigure ⟨Nat.le_of_ble_eq_true rfl, Nat.le_of_ble_eq_true rfl⟩ hH hS hl rfl rfl (Nat.le_of_ble_eq_true rfl) ⟨Nat.le_refl 0, Nat.le_refl 0⟩ dX4_nextToken_82 (fun H locs hH hS => ?_)
    refine lv_if_eq (tgt := 95) X.hx X.hb dX4_nextToken_85 (by decide) (fun c19 => ?_) (fun c19 => ?_)
    · have hf := it_p hf c19
      refine lv_aload_n X.hx X.hb dX4_nextToken_95 rfl (lv_at hl 0 rfl) ?_
      refine lv_aload_n X.hx X.hb dX4_nextToken_96 rfl (lv_at hl 0 rfl) ?_
      refine gfX4_15 X hH ho dX4_nextToken_97 ?_
      refine lv_aload_n X.hx X.hb dX4_nextToken_100 rfl (lv_at hl 0 rfl) ?_
      refine gfX4_22 X hH ho dX4_nextToken_101 ?_
      obtain ⟨hg, hf⟩ := gd_e hf
      refine g_iald X hH ⟨_, ho, rfl⟩ hg dX4_nextToken_104 ?_
      obtain ⟨r20, hr, hf⟩ := bd_e hf
      refine g_callSI (As := [.int (mA σ o 1 (mI σ o 3).toNatClampNeg)]) (rest := [.ref (gad G o 0)]) X (kX4_isTokenLetter l  hr) ⟨cdX4_isTokenLetter, mlX4_102, stX4_isTokenLetter, iniX4⟩ hsX4_isTokenLetter ⟨Nat.le_of_ble_eq_true rfl, Nat.le_of_ble_eq_true rfl⟩ hH hS hl rfl rfl (Nat.le_of_ble_eq_true rfl) ⟨Nat.le_refl 0, Nat.le_refl 0⟩ dX4_nextToken_105 (fun H locs hH hS => ?_)
      refine lv_if_eq (tgt := 123) X.hx X.hb dX4_nextToken_108 (by decide) (fun c21 => ?_) (fun c21 => ?_)
      · have hf := it_p hf c21
        refine lv_iconst (v := 2) X.hx X.hb dX4_nextToken_123 (by decide) ?_
        refine pfX4_19 X hH hS ho  dX4_nextToken_124 (fun H locs hH hS => ?_)
        obtain ⟨σ22, he, hf⟩ := stp_e hf
        rw [← he] at hH
        clear he
        refine lv_aload_n X.hx X.hb dX4_nextToken_127 rfl (lv_at hl 0 rfl) ?_
        refine lv_aload_n X.hx X.hb dX4_nextToken_128 rfl (lv_at hl 0 rfl) ?_
        refine gfX4_22 X hH ho dX4_nextToken_129 ?_
        refine lv_iconst (v := 1) X.hx X.hb dX4_nextToken_132 (by decide) ?_
        refine lv_iadd X.hx X.hb dX4_nextToken_133 ?_
        refine pfX4_25 X hH hS ho  dX4_nextToken_134 (fun H locs hH hS => ?_)
        obtain ⟨σ23, he, hf⟩ := stp_e hf
        rw [← he] at hH
        clear he
        have e := so1 hf
        rw [e] at hH
        exact g_vret X hH hS rfl dX4_nextToken_137
      · have hf := it_n hf c21
        refine lv_aload_n X.hx X.hb dX4_nextToken_111 rfl (lv_at hl 0 rfl) ?_
        refine gfX4_15 X hH ho dX4_nextToken_112 ?_
        refine lv_aload_n X.hx X.hb dX4_nextToken_115 rfl (lv_at hl 0 rfl) ?_
        refine gfX4_22 X hH ho dX4_nextToken_116 ?_
        obtain ⟨hg, hf⟩ := gd_e hf
        refine g_iald X hH ⟨_, ho, rfl⟩ hg dX4_nextToken_119 ?_
        refine lv_goto (tgt := 124) X.hx X.hb dX4_nextToken_120 (by decide) ?_
        refine pfX4_19 X hH hS ho  dX4_nextToken_124 (fun H locs hH hS => ?_)
        obtain ⟨σ24, he, hf⟩ := stp_e hf
        rw [← he] at hH
        clear he
        refine lv_aload_n X.hx X.hb dX4_nextToken_127 rfl (lv_at hl 0 rfl) ?_
        refine lv_aload_n X.hx X.hb dX4_nextToken_128 rfl (lv_at hl 0 rfl) ?_
        refine gfX4_22 X hH ho dX4_nextToken_129 ?_
        refine lv_iconst (v := 1) X.hx X.hb dX4_nextToken_132 (by decide) ?_
        refine lv_iadd X.hx X.hb dX4_nextToken_133 ?_
        refine pfX4_25 X hH hS ho  dX4_nextToken_134 (fun H locs hH hS => ?_)
        obtain ⟨σ25, he, hf⟩ := stp_e hf
        rw [← he] at hH
        clear he
        have e := so1 hf
        rw [e] at hH
        exact g_vret X hH hS rfl dX4_nextToken_137
    · have hf := it_n hf c19
      refine lv_aload_n X.hx X.hb dX4_nextToken_88 rfl (lv_at hl 0 rfl) ?_
      obtain ⟨σ26, hr, hf⟩ := bd_e hf
      refine g_callVV (As := []) (rest := []) X (kX4_readNumber l ho hr) (C := RX4) (T := TX4) (N := 10) (ci := 4) rfl ho ⟨cdX4_readNumber, mlX4_99, imX4_readNumber, seX4_readNumber, iniX4⟩ hvX4_readNumber ⟨Nat.le_of_ble_eq_true rfl, Nat.le_of_ble_eq_true rfl⟩ hH hS hl rfl rfl (Nat.le_of_ble_eq_true rfl) ⟨Nat.le_refl 0, Nat.le_refl 0⟩ dX4_nextToken_89 (fun H locs hH hS => ?_)
      refine lv_goto (tgt := 137) X.hx X.hb dX4_nextToken_92 (by decide) ?_
      have e := so1 hf
      rw [e] at hH
      exact g_vret X hH hS rfl dX4_nextToken_137
  · have hf := it_n hf c17
    refine lv_aload_n X.hx X.hb dX4_nextToken_57 rfl (lv_at hl 0 rfl) ?_
    refine lv_iconst (v := 0) X.hx X.hb dX4_nextToken_58 (by decide) ?_
    refine pfX4_19 X hH hS ho  dX4_nextToken_59 (fun H locs hH hS => ?_)
    obtain ⟨σ27, he, hf⟩ := stp_e hf
    rw [← he] at hH
    clear he
    refine lv_aload_n X.hx X.hb dX4_nextToken_62 rfl (lv_at hl 0 rfl) ?_
    refine lv_aload_n X.hx X.hb dX4_nextToken_63 rfl (lv_at hl 0 rfl) ?_
    refine gfX4_22 X hH ho dX4_nextToken_64 ?_
    refine pfX4_25 X hH hS ho  dX4_nextToken_67 (fun H locs hH hS => ?_)
    obtain ⟨σ28, he, hf⟩ := stp_e hf
    rw [← he] at hH
    clear he
    refine lv_goto (tgt := 137) X.hx X.hb dX4_nextToken_70 (by decide) ?_
    have e := so1 hf
    rw [e] at hH
    exact g_vret X hH hS rfl dX4_nextToken_137
set_option maxRecDepth 20000 in
set_option maxHeartbeats 4000000 in
theorem bX4_nextToken_8 {p : Program} {l : Launch} {e : Env} {s : State} {m : MethodId} {args : Array Value} {below : List Frame} {meth : Method} {c : Code} {G : gG} (X : gX p s m args meth c yX4_nextToken cX4_nextToken 1 none RX4 G) {o : Nat} (ho : gsh G o = some 4)  {σ' : Mem} : (∀ (n : Nat) (σ : Mem), fX4_nextToken_8 o n σ = some σ' → ∀ (H : Heap) (locs : List Loc) (ls : Array Slot), gH G σ H → va_S (gAA G) s.heap H locs → lv_has ls 1 [(0, .ref (gad G o 0))] → WB p l e 2 42 s m args below meth c G none σ' H locs (F0 m 8 ls [])) := by
  intro n
  induction n with
  | zero => intro σ hf H locs ls hH hS hl; exact nomatch (show (none : Option Mem) = some _ from hf)
  | succ n ih =>
    intro σ hf H locs ls hH hS hl
    rw [fX4_nextToken_8.eq_2] at hf
    refine lv_aload_n X.hx X.hb dX4_nextToken_8 rfl (lv_at hl 0 rfl) ?_
    refine gfX4_22 X hH ho dX4_nextToken_9 ?_
    refine lv_aload_n X.hx X.hb dX4_nextToken_12 rfl (lv_at hl 0 rfl) ?_
    refine gfX4_9 X hH ho dX4_nextToken_13 ?_
    refine lv_icmp_ge (tgt := 46) X.hx X.hb dX4_nextToken_16 (by decide) (fun c29 => ?_) (fun c29 => ?_)
    · have hf := it_p hf c29
      exact bX4_nextToken_46 X  ho   _  hf _ _ _ hH hS (lv_sub hl [0] rfl)
    · have hf := it_n hf c29
      refine lv_aload_n X.hx X.hb dX4_nextToken_19 rfl (lv_at hl 0 rfl) ?_
      refine gfX4_15 X hH ho dX4_nextToken_20 ?_
      refine lv_aload_n X.hx X.hb dX4_nextToken_23 rfl (lv_at hl 0 rfl) ?_
      refine gfX4_22 X hH ho dX4_nextToken_24 ?_
      obtain ⟨hg, hf⟩ := gd_e hf
      refine g_iald X hH ⟨_, ho, rfl⟩ hg dX4_nextToken_27 ?_
      refine lv_bipush (v := 32) X.hx X.hb dX4_nextToken_28 (by decide) ?_
      refine lv_icmp_ne (tgt := 46) X.hx X.hb dX4_nextToken_30 (by decide) (fun c30 => ?_) (fun c30 => ?_)
      · have hf := it_n hf c30
        exact bX4_nextToken_46 X  ho   _  hf _ _ _ hH hS (lv_sub hl [0] rfl)
      · have hf := it_p hf c30
        refine lv_aload_n X.hx X.hb dX4_nextToken_33 rfl (lv_at hl 0 rfl) ?_
        refine lv_dup X.hx X.hb dX4_nextToken_34 rfl ?_
        refine gfX4_22 X hH ho dX4_nextToken_35 ?_
        refine lv_iconst (v := 1) X.hx X.hb dX4_nextToken_38 (by decide) ?_
        refine lv_iadd X.hx X.hb dX4_nextToken_39 ?_
        refine pfX4_22 X hH hS ho  dX4_nextToken_40 (fun H locs hH hS => ?_)
        obtain ⟨σ31, he, hf⟩ := stp_e hf
        rw [← he] at hH
        clear he
        refine lv_goto (tgt := 8) X.hx X.hb dX4_nextToken_43 (by decide) ?_
        exact ih _  hf _ _ _ hH hS (lv_sub hl [0] rfl)
set_option maxRecDepth 20000 in
set_option maxHeartbeats 4000000 in
theorem kX4_nextToken (l : Launch) {G : gG} {σ : Mem} {σ' : Mem} {o : Nat} (ho : gsh G o = some 4)  (hf : fX4_nextToken σ o = some σ') : CM l yX4_nextToken cX4_nextToken 1 none 2 42 G σ [.ref (gad G o 0)] none σ' := by
  refine CM.of (by decide) (Nat.le_of_ble_eq_true rfl) (fun p e s m below meth c ls X hH hl => ?_)
  have X : gX p s m _ meth c yX4_nextToken cX4_nextToken 1 none RX4 G := X
  have hS : va_S (gAA G) s.heap s.heap [] := va_S.rf
  have hl : lv_has ls 1 [(0, .ref (gad G o 0))] := hl
  rw [fX4_nextToken.eq_1] at hf
  refine lv_aload_n X.hx X.hb dX4_nextToken_0 rfl (lv_at hl 0 rfl) ?_
  refine lv_aload_n X.hx X.hb dX4_nextToken_1 rfl (lv_at hl 0 rfl) ?_
  refine gfX4_25 X hH ho dX4_nextToken_2 ?_
  refine pfX4_22 X hH hS ho  dX4_nextToken_5 (fun H locs hH hS => ?_)
  obtain ⟨σ32, he, hf⟩ := stp_e hf
  rw [← he] at hH
  clear he
  exact bX4_nextToken_8 X  ho  _ _  hf _ _ _ hH hS (lv_sub hl [0] rfl)
set_option maxRecDepth 20000 in
set_option maxHeartbeats 4000000 in
theorem kX4_goesWithM (l : Launch) {G : gG} {σ : Mem} {r : Int32} {o : Nat} (ho : gsh G o = some 4)  (hf : fX4_goesWithM σ o = some r) : CM l yX4_goesWithM cX4_goesWithM 2 (some .boolean) 0 0 G σ [.ref (gad G o 0)] (some (.int r)) σ := by
  refine CM.of (by decide) (Nat.le_of_ble_eq_true rfl) (fun p e s m below meth c ls X hH hl => ?_)
  have X : gX p s m _ meth c yX4_goesWithM cX4_goesWithM 2 (some .boolean) RX4 G := X
  have hS : va_S (gAA G) s.heap s.heap [] := va_S.rf
  have hl : lv_has ls 2 [(0, .ref (gad G o 0))] := hl
  rw [fX4_goesWithM.eq_1] at hf
  refine lv_aload_n X.hx X.hb dX4_goesWithM_0 rfl (lv_at hl 0 rfl) ?_
  refine gfX4_31 X hH ho dX4_goesWithM_1 ?_
  refine lv_iconst (v := 1) X.hx X.hb dX4_goesWithM_4 (by decide) ?_
  obtain ⟨hg, hf⟩ := gd_e hf
  refine g_iald X hH ⟨_, ho, rfl⟩ hg dX4_goesWithM_5 ?_
  refine lv_istore_n (lv' := [(1, .int (mA σ o 6 (1 : Int32).toNatClampNeg)), (0, .ref (gad G o 0))]) X.hx X.hb dX4_goesWithM_6 rfl hl (by decide) rfl (fun ls hl => ?_)
  refine lv_iload_n X.hx X.hb dX4_goesWithM_7 rfl (lv_at hl 0 rfl) ?_
  refine lv_bipush (v := 10) X.hx X.hb dX4_goesWithM_8 (by decide) ?_
  refine lv_icmp_ne (tgt := 30) X.hx X.hb dX4_goesWithM_10 (by decide) (fun c5 => ?_) (fun c5 => ?_)
  · have hf := it_n hf c5
    refine lv_aload_n X.hx X.hb dX4_goesWithM_30 rfl (lv_at hl 1 rfl) ?_
    refine gfX4_28 X hH ho dX4_goesWithM_31 ?_
    refine lv_bipush (v := 10) X.hx X.hb dX4_goesWithM_34 (by decide) ?_
    refine lv_icmp_ge (tgt := 51) X.hx X.hb dX4_goesWithM_36 (by decide) (fun c6 => ?_) (fun c6 => ?_)
    · have hf := it_p hf c6
      refine lv_iconst (v := 0) X.hx X.hb dX4_goesWithM_51 (by decide) ?_
      exact g_zret X hH hS rfl (so1 hf) (by decide) dX4_goesWithM_52
    · have hf := it_n hf c6
      refine lv_aload_n X.hx X.hb dX4_goesWithM_39 rfl (lv_at hl 1 rfl) ?_
      refine gfX4_28 X hH ho dX4_goesWithM_40 ?_
      refine lv_iload_n X.hx X.hb dX4_goesWithM_43 rfl (lv_at hl 0 rfl) ?_
      refine lv_icmp_eq (tgt := 51) X.hx X.hb dX4_goesWithM_44 (by decide) (fun c7 => ?_) (fun c7 => ?_)
      · have hf := it_p hf c7
        refine lv_iconst (v := 0) X.hx X.hb dX4_goesWithM_51 (by decide) ?_
        exact g_zret X hH hS rfl (so1 hf) (by decide) dX4_goesWithM_52
      · have hf := it_n hf c7
        refine lv_iconst (v := 1) X.hx X.hb dX4_goesWithM_47 (by decide) ?_
        refine lv_goto (tgt := 52) X.hx X.hb dX4_goesWithM_48 (by decide) ?_
        exact g_zret X hH hS rfl (so1 hf) (by decide) dX4_goesWithM_52
  · have hf := it_p hf c5
    refine lv_aload_n X.hx X.hb dX4_goesWithM_13 rfl (lv_at hl 1 rfl) ?_
    refine gfX4_28 X hH ho dX4_goesWithM_14 ?_
    refine lv_bipush (v := 10) X.hx X.hb dX4_goesWithM_17 (by decide) ?_
    refine lv_icmp_ne (tgt := 26) X.hx X.hb dX4_goesWithM_19 (by decide) (fun c8 => ?_) (fun c8 => ?_)
    · have hf := it_n hf c8
      refine lv_iconst (v := 0) X.hx X.hb dX4_goesWithM_26 (by decide) ?_
      refine lv_goto (tgt := 52) X.hx X.hb dX4_goesWithM_27 (by decide) ?_
      exact g_zret X hH hS rfl (so1 hf) (by decide) dX4_goesWithM_52
    · have hf := it_p hf c8
      refine lv_iconst (v := 1) X.hx X.hb dX4_goesWithM_22 (by decide) ?_
      refine lv_goto (tgt := 52) X.hx X.hb dX4_goesWithM_23 (by decide) ?_
      exact g_zret X hH hS rfl (so1 hf) (by decide) dX4_goesWithM_52
set_option maxRecDepth 20000 in
set_option maxHeartbeats 4000000 in
theorem bX4_fits_127 {p : Program} {l : Launch} {e : Env} {s : State} {m : MethodId} {args : Array Value} {below : List Frame} {meth : Method} {c : Code} {G : gG} (X : gX p s m args meth c yX4_fits cX4_fits 3 (some .boolean) RX4 G) {o : Nat} (ho : gsh G o = some 4)  {σ : Mem} {r : Int32} : (∀ (xs0 : Int32) (xs1 : Int32), fX4_fits_127 σ o xs0 xs1 = some r → ∀ (H : Heap) (locs : List Loc) (ls : Array Slot), gH G σ H → va_S (gAA G) s.heap H locs → lv_has ls 3 [] → WB p l e 1 21 s m args below meth c G (some (.int r)) σ H locs (F0 m 127 ls [.int xs0, .int xs1])) := by
  intro xs0 xs1 hf H locs ls hH hS hl
  rw [fX4_fits_127.eq_1] at hf
  refine lv_icmp_gt (tgt := 134) X.hx X.hb dX4_fits_127 (by decide) (fun c18 => ?_) (fun c18 => ?_)
  · have hf := it_p hf c18
    refine lv_iconst (v := 0) X.hx X.hb dX4_fits_134 (by decide) ?_
    exact g_zret X hH hS rfl (so1 hf) (by decide) dX4_fits_135
  · have hf := it_n hf c18
    refine lv_iconst (v := 1) X.hx X.hb dX4_fits_130 (by decide) ?_
    refine lv_goto (tgt := 135) X.hx X.hb dX4_fits_131 (by decide) ?_
    exact g_zret X hH hS rfl (so1 hf) (by decide) dX4_fits_135
set_option maxRecDepth 20000 in
set_option maxHeartbeats 4000000 in
theorem kX4_fits (l : Launch) {G : gG} {σ : Mem} {r : Int32} {o : Nat} {x1 : Int32} {x2 : Int32} (ho : gsh G o = some 4)  (hf : fX4_fits σ o x1 x2 = some r) : CM l yX4_fits cX4_fits 3 (some .boolean) 1 21 G σ [.ref (gad G o 0), .int x1, .int x2] (some (.int r)) σ := by
  refine CM.of (by decide) (Nat.le_of_ble_eq_true rfl) (fun p e s m below meth c ls X hH hl => ?_)
  have X : gX p s m _ meth c yX4_fits cX4_fits 3 (some .boolean) RX4 G := X
  have hS : va_S (gAA G) s.heap s.heap [] := va_S.rf
  have hl : lv_has ls 3 [(0, .ref (gad G o 0)), (1, .int x1), (2, .int x2)] := hl
  rw [fX4_fits.eq_1] at hf
  refine lv_iload_n X.hx X.hb dX4_fits_0 rfl (lv_at hl 1 rfl) ?_
  by_cases c19 : x1 = (98 : Int32)
  · have hf := it_p hf c19
    refine lv_lookup (tgt := 89) X.hx X.hb dX4_fits_1 (by decide) (off := 88) (by rw [c19]; decide) (by decide) ?_
    refine lv_aload_n X.hx X.hb dX4_fits_89 rfl (lv_at hl 0 rfl) ?_
    refine gfX4_28 X hH ho dX4_fits_90 ?_
    refine lv_iconst (v := 1) X.hx X.hb dX4_fits_93 (by decide) ?_
    refine lv_icmp_lt (tgt := 110) X.hx X.hb dX4_fits_94 (by decide) (fun c20 => ?_) (fun c20 => ?_)
    · have hf := it_p hf c20
      refine lv_iconst (v := 0) X.hx X.hb dX4_fits_110 (by decide) ?_
      exact g_zret X hH hS rfl (so1 hf) (by decide) dX4_fits_111
    · have hf := it_n hf c20
      refine lv_aload_n X.hx X.hb dX4_fits_97 rfl (lv_at hl 0 rfl) ?_
      refine gfX4_28 X hH ho dX4_fits_98 ?_
      refine lv_bipush (v := 9) X.hx X.hb dX4_fits_101 (by decide) ?_
      refine lv_icmp_gt (tgt := 110) X.hx X.hb dX4_fits_103 (by decide) (fun c21 => ?_) (fun c21 => ?_)
      · have hf := it_p hf c21
        refine lv_iconst (v := 0) X.hx X.hb dX4_fits_110 (by decide) ?_
        exact g_zret X hH hS rfl (so1 hf) (by decide) dX4_fits_111
      · have hf := it_n hf c21
        refine lv_iconst (v := 1) X.hx X.hb dX4_fits_106 (by decide) ?_
        refine lv_goto (tgt := 111) X.hx X.hb dX4_fits_107 (by decide) ?_
        exact g_zret X hH hS rfl (so1 hf) (by decide) dX4_fits_111
  · have hf := it_n hf c19
    by_cases c22 : x1 = (113 : Int32)
    · have hf := it_p hf c22
      refine lv_lookup (tgt := 44) X.hx X.hb dX4_fits_1 (by decide) (off := 43) (by rw [c22]; decide) (by decide) ?_
      refine lv_aload_n X.hx X.hb dX4_fits_44 rfl (lv_at hl 0 rfl) ?_
      refine gfX4_28 X hH ho dX4_fits_45 ?_
      refine lv_iconst (v := 1) X.hx X.hb dX4_fits_48 (by decide) ?_
      refine lv_icmp_lt (tgt := 65) X.hx X.hb dX4_fits_49 (by decide) (fun c23 => ?_) (fun c23 => ?_)
      · have hf := it_p hf c23
        refine lv_iconst (v := 0) X.hx X.hb dX4_fits_65 (by decide) ?_
        exact g_zret X hH hS rfl (so1 hf) (by decide) dX4_fits_66
      · have hf := it_n hf c23
        refine lv_aload_n X.hx X.hb dX4_fits_52 rfl (lv_at hl 0 rfl) ?_
        refine gfX4_28 X hH ho dX4_fits_53 ?_
        refine lv_bipush (v := 40) X.hx X.hb dX4_fits_56 (by decide) ?_
        refine lv_icmp_gt (tgt := 65) X.hx X.hb dX4_fits_58 (by decide) (fun c24 => ?_) (fun c24 => ?_)
        · have hf := it_p hf c24
          refine lv_iconst (v := 0) X.hx X.hb dX4_fits_65 (by decide) ?_
          exact g_zret X hH hS rfl (so1 hf) (by decide) dX4_fits_66
        · have hf := it_n hf c24
          refine lv_iconst (v := 1) X.hx X.hb dX4_fits_61 (by decide) ?_
          refine lv_goto (tgt := 66) X.hx X.hb dX4_fits_62 (by decide) ?_
          exact g_zret X hH hS rfl (so1 hf) (by decide) dX4_fits_66
    · have hf := it_n hf c22
      by_cases c25 : x1 = (114 : Int32)
      · have hf := it_p hf c25
        refine lv_lookup (tgt := 67) X.hx X.hb dX4_fits_1 (by decide) (off := 66) (by rw [c25]; decide) (by decide) ?_
        refine lv_aload_n X.hx X.hb dX4_fits_67 rfl (lv_at hl 0 rfl) ?_
        refine gfX4_28 X hH ho dX4_fits_68 ?_
        refine lv_iconst (v := 1) X.hx X.hb dX4_fits_71 (by decide) ?_
        refine lv_icmp_lt (tgt := 87) X.hx X.hb dX4_fits_72 (by decide) (fun c26 => ?_) (fun c26 => ?_)
        · have hf := it_p hf c26
          refine lv_iconst (v := 0) X.hx X.hb dX4_fits_87 (by decide) ?_
          exact g_zret X hH hS rfl (so1 hf) (by decide) dX4_fits_88
        · have hf := it_n hf c26
          refine lv_aload_n X.hx X.hb dX4_fits_75 rfl (lv_at hl 0 rfl) ?_
          refine gfX4_28 X hH ho dX4_fits_76 ?_
          refine lv_iconst (v := 3) X.hx X.hb dX4_fits_79 (by decide) ?_
          refine lv_icmp_gt (tgt := 87) X.hx X.hb dX4_fits_80 (by decide) (fun c27 => ?_) (fun c27 => ?_)
          · have hf := it_p hf c27
            refine lv_iconst (v := 0) X.hx X.hb dX4_fits_87 (by decide) ?_
            exact g_zret X hH hS rfl (so1 hf) (by decide) dX4_fits_88
          · have hf := it_n hf c27
            refine lv_iconst (v := 1) X.hx X.hb dX4_fits_83 (by decide) ?_
            refine lv_goto (tgt := 88) X.hx X.hb dX4_fits_84 (by decide) ?_
            exact g_zret X hH hS rfl (so1 hf) (by decide) dX4_fits_88
      · have hf := it_n hf c25
        by_cases c28 : x1 = (116 : Int32)
        · have hf := it_p hf c28
          refine lv_lookup (tgt := 112) X.hx X.hb dX4_fits_1 (by decide) (off := 111) (by rw [c28]; decide) (by decide) ?_
          refine lv_aload_n X.hx X.hb dX4_fits_112 rfl (lv_at hl 0 rfl) ?_
          refine gfX4_28 X hH ho dX4_fits_113 ?_
          refine lv_iload_n X.hx X.hb dX4_fits_116 rfl (lv_at hl 2 rfl) ?_
          refine lv_if_ne (tgt := 125) X.hx X.hb dX4_fits_117 (by decide) (fun c29 => ?_) (fun c29 => ?_)
          · have hf := it_n hf c29
            refine lv_bipush (v := 10) X.hx X.hb dX4_fits_125 (by decide) ?_
            exact bX4_fits_127 X  ho   _ _  hf _ _ _ hH hS (lv_sub hl [] rfl)
          · have hf := it_p hf c29
            refine lv_bipush (v := 40) X.hx X.hb dX4_fits_120 (by decide) ?_
            refine lv_goto (tgt := 127) X.hx X.hb dX4_fits_122 (by decide) ?_
            exact bX4_fits_127 X  ho   _ _  hf _ _ _ hH hS (lv_sub hl [] rfl)
        · have hf := it_n hf c28
          refine lv_lookup (tgt := 136) X.hx X.hb dX4_fits_1 (by decide) (off := 135) (by refine (lv_osw c19 (by decide)).trans ?_; refine (lv_osw c22 (by decide)).trans ?_; refine (lv_osw c25 (by decide)).trans ?_; refine (lv_osw c28 (by decide)).trans ?_; rfl) (by decide) ?_
          refine lv_iload_n X.hx X.hb dX4_fits_136 rfl (lv_at hl 2 rfl) ?_
          refine lv_if_ne (tgt := 158) X.hx X.hb dX4_fits_137 (by decide) (fun c30 => ?_) (fun c30 => ?_)
          · have hf := it_n hf c30
            refine lv_iload_n X.hx X.hb dX4_fits_158 rfl (lv_at hl 2 rfl) ?_
            refine lv_iconst (v := 1) X.hx X.hb dX4_fits_159 (by decide) ?_
            refine lv_icmp_ne (tgt := 180) X.hx X.hb dX4_fits_160 (by decide) (fun c31 => ?_) (fun c31 => ?_)
            · have hf := it_n hf c31
              refine lv_aload_n X.hx X.hb dX4_fits_180 rfl (lv_at hl 0 rfl) ?_
              obtain ⟨r32, hr, hf⟩ := bd_e hf
              refine g_callVI (As := []) (rest := []) X (kX4_goesWithM l ho hr) (C := RX4) (T := TX4) (N := 10) (ci := 4) rfl ho ⟨cdX4_goesWithM, mlX4_74, imX4_goesWithM, seX4_goesWithM, iniX4⟩ hvX4_goesWithM ⟨Nat.le_of_ble_eq_true rfl, Nat.le_of_ble_eq_true rfl⟩ hH hS hl rfl rfl (Nat.le_of_ble_eq_true rfl) ⟨Nat.le_refl 0, Nat.le_refl 0⟩ dX4_fits_181 (fun H locs hH hS => ?_)
              obtain ⟨hg, hf⟩ := gd_e hf
              exact g_zret X hH hS rfl (so1 hf) (zb_e hg) dX4_fits_184
            · have hf := it_p hf c31
              refine lv_aload_n X.hx X.hb dX4_fits_163 rfl (lv_at hl 0 rfl) ?_
              refine gfX4_28 X hH ho dX4_fits_164 ?_
              refine lv_bipush (v := 10) X.hx X.hb dX4_fits_167 (by decide) ?_
              refine lv_icmp_gt (tgt := 176) X.hx X.hb dX4_fits_169 (by decide) (fun c33 => ?_) (fun c33 => ?_)
              · have hf := it_p hf c33
                refine lv_iconst (v := 0) X.hx X.hb dX4_fits_176 (by decide) ?_
                refine lv_goto (tgt := 184) X.hx X.hb dX4_fits_177 (by decide) ?_
                exact g_zret X hH hS rfl (so1 hf) (by decide) dX4_fits_184
              · have hf := it_n hf c33
                refine lv_iconst (v := 1) X.hx X.hb dX4_fits_172 (by decide) ?_
                refine lv_goto (tgt := 184) X.hx X.hb dX4_fits_173 (by decide) ?_
                exact g_zret X hH hS rfl (so1 hf) (by decide) dX4_fits_184
          · have hf := it_p hf c30
            refine lv_aload_n X.hx X.hb dX4_fits_140 rfl (lv_at hl 0 rfl) ?_
            refine gfX4_28 X hH ho dX4_fits_141 ?_
            refine lv_sipush (v := 1023) X.hx X.hb dX4_fits_144 (by decide) ?_
            refine lv_icmp_gt (tgt := 154) X.hx X.hb dX4_fits_147 (by decide) (fun c34 => ?_) (fun c34 => ?_)
            · have hf := it_p hf c34
              refine lv_iconst (v := 0) X.hx X.hb dX4_fits_154 (by decide) ?_
              refine lv_goto (tgt := 184) X.hx X.hb dX4_fits_155 (by decide) ?_
              exact g_zret X hH hS rfl (so1 hf) (by decide) dX4_fits_184
            · have hf := it_n hf c34
              refine lv_iconst (v := 1) X.hx X.hb dX4_fits_150 (by decide) ?_
              refine lv_goto (tgt := 184) X.hx X.hb dX4_fits_151 (by decide) ?_
              exact g_zret X hH hS rfl (so1 hf) (by decide) dX4_fits_184
set_option maxRecDepth 20000 in
set_option maxHeartbeats 4000000 in
theorem kX4_mayBegin (l : Launch) {G : gG} {σ : Mem} {r : Int32} {o : Nat} {x1 : Int32} {q2 : Nat} (ho : gsh G o = some 4) (hq2 : gsh G q2 = some 1) (hf : fX4_mayBegin σ o x1 q2 = some r) : CM l yX4_mayBegin cX4_mayBegin 3 (some .boolean) 0 0 G σ [.ref (gad G o 0), .int x1, .ref (gad G q2 0)] (some (.int r)) σ := by
  refine CM.of (by decide) (Nat.le_of_ble_eq_true rfl) (fun p e s m below meth c ls X hH hl => ?_)
  have X : gX p s m _ meth c yX4_mayBegin cX4_mayBegin 3 (some .boolean) RX4 G := X
  have hS : va_S (gAA G) s.heap s.heap [] := va_S.rf
  have hl : lv_has ls 3 [(0, .ref (gad G o 0)), (1, .int x1), (2, .ref (gad G q2 0))] := hl
  rw [fX4_mayBegin.eq_1] at hf
  refine lv_iload_n X.hx X.hb dX4_mayBegin_0 rfl (lv_at hl 1 rfl) ?_
  by_cases c11 : x1 = (98 : Int32)
  · have hf := it_p hf c11
    refine lv_lookup (tgt := 78) X.hx X.hb dX4_mayBegin_1 (by decide) (off := 77) (by rw [c11]; decide) (by decide) ?_
    refine lv_aload_n X.hx X.hb dX4_mayBegin_78 rfl (lv_at hl 0 rfl) ?_
    refine gfX4_41 X hH ho dX4_mayBegin_79 ?_
    refine lv_if_ne (tgt := 89) X.hx X.hb dX4_mayBegin_82 (by decide) (fun c12 => ?_) (fun c12 => ?_)
    · have hf := it_n hf c12
      refine lv_iconst (v := 0) X.hx X.hb dX4_mayBegin_89 (by decide) ?_
      exact g_zret X hH hS rfl (so1 hf) (by decide) dX4_mayBegin_90
    · have hf := it_p hf c12
      refine lv_iconst (v := 1) X.hx X.hb dX4_mayBegin_85 (by decide) ?_
      refine lv_goto (tgt := 90) X.hx X.hb dX4_mayBegin_86 (by decide) ?_
      exact g_zret X hH hS rfl (so1 hf) (by decide) dX4_mayBegin_90
  · have hf := it_n hf c11
    by_cases c13 : x1 = (107 : Int32)
    · have hf := it_p hf c13
      refine lv_lookup (tgt := 106) X.hx X.hb dX4_mayBegin_1 (by decide) (off := 105) (by rw [c13]; decide) (by decide) ?_
      refine lv_aload_n X.hx X.hb dX4_mayBegin_106 rfl (lv_at hl 2 rfl) ?_
      refine gfX4_71 X hH hq2 dX4_mayBegin_107 ?_
      refine lv_iconst (v := 4) X.hx X.hb dX4_mayBegin_110 (by decide) ?_
      refine lv_icmp_ge (tgt := 118) X.hx X.hb dX4_mayBegin_111 (by decide) (fun c14 => ?_) (fun c14 => ?_)
      · have hf := it_p hf c14
        refine lv_iconst (v := 0) X.hx X.hb dX4_mayBegin_118 (by decide) ?_
        exact g_zret X hH hS rfl (so1 hf) (by decide) dX4_mayBegin_119
      · have hf := it_n hf c14
        refine lv_iconst (v := 1) X.hx X.hb dX4_mayBegin_114 (by decide) ?_
        refine lv_goto (tgt := 119) X.hx X.hb dX4_mayBegin_115 (by decide) ?_
        exact g_zret X hH hS rfl (so1 hf) (by decide) dX4_mayBegin_119
    · have hf := it_n hf c13
      by_cases c15 : x1 = (113 : Int32)
      · have hf := it_p hf c15
        refine lv_lookup (tgt := 52) X.hx X.hb dX4_mayBegin_1 (by decide) (off := 51) (by rw [c15]; decide) (by decide) ?_
        refine lv_aload_n X.hx X.hb dX4_mayBegin_52 rfl (lv_at hl 0 rfl) ?_
        refine gfX4_34 X hH ho dX4_mayBegin_53 ?_
        refine lv_if_ne (tgt := 63) X.hx X.hb dX4_mayBegin_56 (by decide) (fun c16 => ?_) (fun c16 => ?_)
        · have hf := it_n hf c16
          refine lv_iconst (v := 0) X.hx X.hb dX4_mayBegin_63 (by decide) ?_
          exact g_zret X hH hS rfl (so1 hf) (by decide) dX4_mayBegin_64
        · have hf := it_p hf c16
          refine lv_iconst (v := 1) X.hx X.hb dX4_mayBegin_59 (by decide) ?_
          refine lv_goto (tgt := 64) X.hx X.hb dX4_mayBegin_60 (by decide) ?_
          exact g_zret X hH hS rfl (so1 hf) (by decide) dX4_mayBegin_64
      · have hf := it_n hf c15
        by_cases c17 : x1 = (114 : Int32)
        · have hf := it_p hf c17
          refine lv_lookup (tgt := 65) X.hx X.hb dX4_mayBegin_1 (by decide) (off := 64) (by rw [c17]; decide) (by decide) ?_
          refine lv_aload_n X.hx X.hb dX4_mayBegin_65 rfl (lv_at hl 0 rfl) ?_
          refine gfX4_38 X hH ho dX4_mayBegin_66 ?_
          refine lv_if_ne (tgt := 76) X.hx X.hb dX4_mayBegin_69 (by decide) (fun c18 => ?_) (fun c18 => ?_)
          · have hf := it_n hf c18
            refine lv_iconst (v := 0) X.hx X.hb dX4_mayBegin_76 (by decide) ?_
            exact g_zret X hH hS rfl (so1 hf) (by decide) dX4_mayBegin_77
          · have hf := it_p hf c18
            refine lv_iconst (v := 1) X.hx X.hb dX4_mayBegin_72 (by decide) ?_
            refine lv_goto (tgt := 77) X.hx X.hb dX4_mayBegin_73 (by decide) ?_
            exact g_zret X hH hS rfl (so1 hf) (by decide) dX4_mayBegin_77
        · have hf := it_n hf c17
          by_cases c19 : x1 = (116 : Int32)
          · have hf := it_p hf c19
            refine lv_lookup (tgt := 91) X.hx X.hb dX4_mayBegin_1 (by decide) (off := 90) (by rw [c19]; decide) (by decide) ?_
            refine lv_aload_n X.hx X.hb dX4_mayBegin_91 rfl (lv_at hl 2 rfl) ?_
            refine gfX4_68 X hH hq2 dX4_mayBegin_92 ?_
            refine lv_bipush (v := 6) X.hx X.hb dX4_mayBegin_95 (by decide) ?_
            refine lv_icmp_ge (tgt := 104) X.hx X.hb dX4_mayBegin_97 (by decide) (fun c20 => ?_) (fun c20 => ?_)
            · have hf := it_p hf c20
              refine lv_iconst (v := 0) X.hx X.hb dX4_mayBegin_104 (by decide) ?_
              exact g_zret X hH hS rfl (so1 hf) (by decide) dX4_mayBegin_105
            · have hf := it_n hf c20
              refine lv_iconst (v := 1) X.hx X.hb dX4_mayBegin_100 (by decide) ?_
              refine lv_goto (tgt := 105) X.hx X.hb dX4_mayBegin_101 (by decide) ?_
              exact g_zret X hH hS rfl (so1 hf) (by decide) dX4_mayBegin_105
          · have hf := it_n hf c19
            refine lv_lookup (tgt := 120) X.hx X.hb dX4_mayBegin_1 (by decide) (off := 119) (by refine (lv_osw c11 (by decide)).trans ?_; refine (lv_osw c13 (by decide)).trans ?_; refine (lv_osw c15 (by decide)).trans ?_; refine (lv_osw c17 (by decide)).trans ?_; refine (lv_osw c19 (by decide)).trans ?_; rfl) (by decide) ?_
            refine lv_iconst (v := 0) X.hx X.hb dX4_mayBegin_120 (by decide) ?_
            exact g_zret X hH hS rfl (so1 hf) (by decide) dX4_mayBegin_121
set_option maxRecDepth 20000 in
set_option maxHeartbeats 4000000 in
theorem kX4_tell (l : Launch) {G : gG} {σ : Mem} {σ' : Mem} {o : Nat} {x1 : Int32} {q2 : Nat} (ho : gsh G o = some 4) (hq2 : gsh G q2 = some 1) (hf : fX4_tell σ o x1 q2 = some σ') : CM l yX4_tell cX4_tell 3 none 1 23 G σ [.ref (gad G o 0), .int x1, .ref (gad G q2 0)] none σ' := by
  refine CM.of (by decide) (Nat.le_of_ble_eq_true rfl) (fun p e s m below meth c ls X hH hl => ?_)
  have X : gX p s m _ meth c yX4_tell cX4_tell 3 none RX4 G := X
  have hS : va_S (gAA G) s.heap s.heap [] := va_S.rf
  have hl : lv_has ls 3 [(0, .ref (gad G o 0)), (1, .int x1), (2, .ref (gad G q2 0))] := hl
  rw [fX4_tell.eq_1] at hf
  refine lv_iload_n X.hx X.hb dX4_tell_0 rfl (lv_at hl 1 rfl) ?_
  by_cases c13 : x1 = (98 : Int32)
  · have hf := it_p hf c13
    refine lv_lookup (tgt := 80) X.hx X.hb dX4_tell_1 (by decide) (off := 79) (by rw [c13]; decide) (by decide) ?_
    refine lv_aload_n X.hx X.hb dX4_tell_80 rfl (lv_at hl 2 rfl) ?_
    refine lv_aload_n X.hx X.hb dX4_tell_81 rfl (lv_at hl 0 rfl) ?_
    refine gfX4_31 X hH ho dX4_tell_82 ?_
    refine lv_iconst (v := 0) X.hx X.hb dX4_tell_85 (by decide) ?_
    obtain ⟨hg, hf⟩ := gd_e hf
    refine g_iald X hH ⟨_, ho, rfl⟩ hg dX4_tell_86 ?_
    refine pfX4_84 X hH hS hq2  dX4_tell_87 (fun H locs hH hS => ?_)
    obtain ⟨σ14, he, hf⟩ := stp_e hf
    rw [← he] at hH
    clear he
    refine lv_aload_n X.hx X.hb dX4_tell_90 rfl (lv_at hl 0 rfl) ?_
    refine lv_iconst (v := 1) X.hx X.hb dX4_tell_91 (by decide) ?_
    refine pfX4_41 X hH hS ho (by decide) dX4_tell_92 (fun H locs hH hS => ?_)
    obtain ⟨σ15, he, hf⟩ := stp_e hf
    rw [← he] at hH
    clear he
    refine lv_goto (tgt := 139) X.hx X.hb dX4_tell_95 (by decide) ?_
    have e := so1 hf
    rw [e] at hH
    exact g_vret X hH hS rfl dX4_tell_139
  · have hf := it_n hf c13
    by_cases c16 : x1 = (113 : Int32)
    · have hf := it_p hf c16
      refine lv_lookup (tgt := 44) X.hx X.hb dX4_tell_1 (by decide) (off := 43) (by rw [c16]; decide) (by decide) ?_
      refine lv_aload_n X.hx X.hb dX4_tell_44 rfl (lv_at hl 2 rfl) ?_
      refine lv_aload_n X.hx X.hb dX4_tell_45 rfl (lv_at hl 0 rfl) ?_
      refine gfX4_31 X hH ho dX4_tell_46 ?_
      refine lv_iconst (v := 0) X.hx X.hb dX4_tell_49 (by decide) ?_
      obtain ⟨hg, hf⟩ := gd_e hf
      refine g_iald X hH ⟨_, ho, rfl⟩ hg dX4_tell_50 ?_
      refine pfX4_78 X hH hS hq2  dX4_tell_51 (fun H locs hH hS => ?_)
      obtain ⟨σ17, he, hf⟩ := stp_e hf
      rw [← he] at hH
      clear he
      refine lv_aload_n X.hx X.hb dX4_tell_54 rfl (lv_at hl 0 rfl) ?_
      refine lv_iconst (v := 1) X.hx X.hb dX4_tell_55 (by decide) ?_
      refine pfX4_34 X hH hS ho (by decide) dX4_tell_56 (fun H locs hH hS => ?_)
      obtain ⟨σ18, he, hf⟩ := stp_e hf
      rw [← he] at hH
      clear he
      refine lv_goto (tgt := 139) X.hx X.hb dX4_tell_59 (by decide) ?_
      have e := so1 hf
      rw [e] at hH
      exact g_vret X hH hS rfl dX4_tell_139
    · have hf := it_n hf c16
      by_cases c19 : x1 = (114 : Int32)
      · have hf := it_p hf c19
        refine lv_lookup (tgt := 62) X.hx X.hb dX4_tell_1 (by decide) (off := 61) (by rw [c19]; decide) (by decide) ?_
        refine lv_aload_n X.hx X.hb dX4_tell_62 rfl (lv_at hl 2 rfl) ?_
        refine lv_aload_n X.hx X.hb dX4_tell_63 rfl (lv_at hl 0 rfl) ?_
        refine gfX4_31 X hH ho dX4_tell_64 ?_
        refine lv_iconst (v := 0) X.hx X.hb dX4_tell_67 (by decide) ?_
        obtain ⟨hg, hf⟩ := gd_e hf
        refine g_iald X hH ⟨_, ho, rfl⟩ hg dX4_tell_68 ?_
        refine pfX4_81 X hH hS hq2  dX4_tell_69 (fun H locs hH hS => ?_)
        obtain ⟨σ20, he, hf⟩ := stp_e hf
        rw [← he] at hH
        clear he
        refine lv_aload_n X.hx X.hb dX4_tell_72 rfl (lv_at hl 0 rfl) ?_
        refine lv_iconst (v := 1) X.hx X.hb dX4_tell_73 (by decide) ?_
        refine pfX4_38 X hH hS ho (by decide) dX4_tell_74 (fun H locs hH hS => ?_)
        obtain ⟨σ21, he, hf⟩ := stp_e hf
        rw [← he] at hH
        clear he
        refine lv_goto (tgt := 139) X.hx X.hb dX4_tell_77 (by decide) ?_
        have e := so1 hf
        rw [e] at hH
        exact g_vret X hH hS rfl dX4_tell_139
      · have hf := it_n hf c19
        by_cases c22 : x1 = (116 : Int32)
        · have hf := it_p hf c22
          refine lv_lookup (tgt := 98) X.hx X.hb dX4_tell_1 (by decide) (off := 97) (by rw [c22]; decide) (by decide) ?_
          refine lv_aload_n X.hx X.hb dX4_tell_98 rfl (lv_at hl 2 rfl) ?_
          refine lv_aload_n X.hx X.hb dX4_tell_99 rfl (lv_at hl 0 rfl) ?_
          refine gfX4_31 X hH ho dX4_tell_100 ?_
          refine lv_iconst (v := 0) X.hx X.hb dX4_tell_103 (by decide) ?_
          obtain ⟨hg, hf⟩ := gd_e hf
          refine g_iald X hH ⟨_, ho, rfl⟩ hg dX4_tell_104 ?_
          refine lv_aload_n X.hx X.hb dX4_tell_105 rfl (lv_at hl 0 rfl) ?_
          refine gfX4_31 X hH ho dX4_tell_106 ?_
          refine lv_iconst (v := 1) X.hx X.hb dX4_tell_109 (by decide) ?_
          obtain ⟨hg, hf⟩ := gd_e hf
          refine g_iald X hH ⟨_, ho, rfl⟩ hg dX4_tell_110 ?_
          obtain ⟨σ23, hr, hf⟩ := bd_e hf
          refine g_callVV (As := [.int (mA σ o 6 (0 : Int32).toNatClampNeg), .int (mA σ o 6 (1 : Int32).toNatClampNeg)]) (rest := []) X (kX1_addTraveller l hq2 hr) (C := RX1) (T := TX1) (N := 11) (ci := 1) rfl hq2 ⟨cdX1_addTraveller, mlX4_87, imX1_addTraveller, seX1_addTraveller, iniX1⟩ hvX1_addTraveller ⟨Nat.le_of_ble_eq_true rfl, Nat.le_of_ble_eq_true rfl⟩ hH hS hl rfl rfl (Nat.le_of_ble_eq_true rfl) ⟨Nat.le_refl 0, Nat.le_refl 0⟩ dX4_tell_111 (fun H locs hH hS => ?_)
          refine lv_goto (tgt := 139) X.hx X.hb dX4_tell_114 (by decide) ?_
          have e := so1 hf
          rw [e] at hH
          exact g_vret X hH hS rfl dX4_tell_139
        · have hf := it_n hf c22
          refine lv_lookup (tgt := 117) X.hx X.hb dX4_tell_1 (by decide) (off := 116) (by refine (lv_osw c13 (by decide)).trans ?_; refine (lv_osw c16 (by decide)).trans ?_; refine (lv_osw c19 (by decide)).trans ?_; refine (lv_osw c22 (by decide)).trans ?_; rfl) (by decide) ?_
          refine lv_aload_n X.hx X.hb dX4_tell_117 rfl (lv_at hl 2 rfl) ?_
          refine lv_aload_n X.hx X.hb dX4_tell_118 rfl (lv_at hl 0 rfl) ?_
          refine gfX4_31 X hH ho dX4_tell_119 ?_
          refine lv_iconst (v := 0) X.hx X.hb dX4_tell_122 (by decide) ?_
          obtain ⟨hg, hf⟩ := gd_e hf
          refine g_iald X hH ⟨_, ho, rfl⟩ hg dX4_tell_123 ?_
          refine lv_aload_n X.hx X.hb dX4_tell_124 rfl (lv_at hl 0 rfl) ?_
          refine gfX4_31 X hH ho dX4_tell_125 ?_
          refine lv_iconst (v := 1) X.hx X.hb dX4_tell_128 (by decide) ?_
          obtain ⟨hg, hf⟩ := gd_e hf
          refine g_iald X hH ⟨_, ho, rfl⟩ hg dX4_tell_129 ?_
          refine lv_aload_n X.hx X.hb dX4_tell_130 rfl (lv_at hl 0 rfl) ?_
          refine gfX4_31 X hH ho dX4_tell_131 ?_
          refine lv_iconst (v := 2) X.hx X.hb dX4_tell_134 (by decide) ?_
          obtain ⟨hg, hf⟩ := gd_e hf
          refine g_iald X hH ⟨_, ho, rfl⟩ hg dX4_tell_135 ?_
          obtain ⟨σ24, hr, hf⟩ := bd_e hf
          refine g_callVV (As := [.int (mA σ o 6 (0 : Int32).toNatClampNeg), .int (mA σ o 6 (1 : Int32).toNatClampNeg), .int (mA σ o 6 (2 : Int32).toNatClampNeg)]) (rest := []) X (kX1_addClerk l hq2 hr) (C := RX1) (T := TX1) (N := 11) (ci := 1) rfl hq2 ⟨cdX1_addClerk, mlX4_91, imX1_addClerk, seX1_addClerk, iniX1⟩ hvX1_addClerk ⟨Nat.le_of_ble_eq_true rfl, Nat.le_of_ble_eq_true rfl⟩ hH hS hl rfl rfl (Nat.le_of_ble_eq_true rfl) ⟨Nat.le_refl 0, Nat.le_refl 0⟩ dX4_tell_136 (fun H locs hH hS => ?_)
          have e := so1 hf
          rw [e] at hH
          exact g_vret X hH hS rfl dX4_tell_139
set_option maxRecDepth 20000 in
set_option maxHeartbeats 4000000 in
theorem bX4_readItem_41 {p : Program} {l : Launch} {e : Env} {s : State} {m : MethodId} {args : Array Value} {below : List Frame} {meth : Method} {c : Code} {G : gG} (X : gX p s m args meth c yX4_readItem cX4_readItem 5 (some .boolean) RX4 G) {o : Nat} (ho : gsh G o = some 4)  {r : Int32} {σ' : Mem} : (∀ (n : Nat) (σ : Mem) (q1 : Nat) (x2 : Int32) (x3 : Int32) (x4 : Int32), gsh G q1 = some 1 → fX4_readItem_41 o n σ q1 x2 x3 x4 = some (r, σ') → ∀ (H : Heap) (locs : List Loc) (ls : Array Slot), gH G σ H → va_S (gAA G) s.heap H locs → lv_has ls 5 [(0, .ref (gad G o 0)), (1, .ref (gad G q1 0)), (2, .int x2), (3, .int x3), (4, .int x4)] → WB p l e 3 62 s m args below meth c G (some (.int r)) σ' H locs (F0 m 41 ls [])) := by
  intro n
  induction n with
  | zero => intro σ q1 x2 x3 x4 hq1 hf H locs ls hH hS hl; exact nomatch (show (none : Option (Int32 × Mem)) = some _ from hf)
  | succ n ih =>
    intro σ q1 x2 x3 x4 hq1 hf H locs ls hH hS hl
    rw [fX4_readItem_41.eq_2] at hf
    refine lv_iload X.hx X.hb dX4_readItem_41 (lv_at hl 4 rfl) ?_
    refine lv_iload_n X.hx X.hb dX4_readItem_43 rfl (lv_at hl 3 rfl) ?_
    refine lv_icmp_ge (tgt := 88) X.hx X.hb dX4_readItem_44 (by decide) (fun c14 => ?_) (fun c14 => ?_)
    · have hf := it_p hf c14
      refine lv_aload_n X.hx X.hb dX4_readItem_88 rfl (lv_at hl 0 rfl) ?_
      obtain ⟨σ15, hr, hf⟩ := bd_e hf
      refine g_callVV (As := []) (rest := []) X (kX4_nextToken l ho hr) (C := RX4) (T := TX4) (N := 10) (ci := 4) rfl ho ⟨cdX4_nextToken, mlX4_49, imX4_nextToken, seX4_nextToken, iniX4⟩ hvX4_nextToken ⟨Nat.le_of_ble_eq_true rfl, Nat.le_of_ble_eq_true rfl⟩ hH hS hl rfl rfl (Nat.le_of_ble_eq_true rfl) ⟨Nat.le_refl 0, Nat.le_refl 0⟩ dX4_readItem_89 (fun H locs hH hS => ?_)
      refine lv_aload_n X.hx X.hb dX4_readItem_92 rfl (lv_at hl 0 rfl) ?_
      refine gfX4_19 X hH ho dX4_readItem_93 ?_
      refine lv_bipush (v := 59) X.hx X.hb dX4_readItem_96 (by decide) ?_
      refine lv_icmp_eq (tgt := 103) X.hx X.hb dX4_readItem_98 (by decide) (fun c16 => ?_) (fun c16 => ?_)
      · have hf := it_p hf c16
        refine lv_aload_n X.hx X.hb dX4_readItem_103 rfl (lv_at hl 0 rfl) ?_
        refine lv_iload_n X.hx X.hb dX4_readItem_104 rfl (lv_at hl 2 rfl) ?_
        refine lv_aload_n X.hx X.hb dX4_readItem_105 rfl (lv_at hl 1 rfl) ?_
        obtain ⟨σ17, hr, hf⟩ := bd_e hf
        refine g_callVV (As := [.int x2, .ref (gad G q1 0)]) (rest := []) X (kX4_tell l ho hq1 hr) (C := RX4) (T := TX4) (N := 10) (ci := 4) rfl ho ⟨cdX4_tell, mlX4_64, imX4_tell, seX4_tell, iniX4⟩ hvX4_tell ⟨Nat.le_of_ble_eq_true rfl, Nat.le_of_ble_eq_true rfl⟩ hH hS hl rfl rfl (Nat.le_of_ble_eq_true rfl) ⟨Nat.le_refl 0, Nat.le_refl 0⟩ dX4_readItem_106 (fun H locs hH hS => ?_)
        refine lv_iconst (v := 1) X.hx X.hb dX4_readItem_109 (by decide) ?_
        have e := so2 hf
        rw [e.2] at hH
        exact g_zret X hH hS rfl e.1 (by decide) dX4_readItem_110
      · have hf := it_n hf c16
        refine lv_iconst (v := 0) X.hx X.hb dX4_readItem_101 (by decide) ?_
        have e := so2 hf
        rw [e.2] at hH
        exact g_zret X hH hS rfl e.1 (by decide) dX4_readItem_102
    · have hf := it_n hf c14
      refine lv_aload_n X.hx X.hb dX4_readItem_47 rfl (lv_at hl 0 rfl) ?_
      obtain ⟨σ18, hr, hf⟩ := bd_e hf
      refine g_callVV (As := []) (rest := []) X (kX4_nextToken l ho hr) (C := RX4) (T := TX4) (N := 10) (ci := 4) rfl ho ⟨cdX4_nextToken, mlX4_49, imX4_nextToken, seX4_nextToken, iniX4⟩ hvX4_nextToken ⟨Nat.le_of_ble_eq_true rfl, Nat.le_of_ble_eq_true rfl⟩ hH hS hl rfl rfl (Nat.le_of_ble_eq_true rfl) ⟨Nat.le_refl 0, Nat.le_refl 0⟩ dX4_readItem_48 (fun H locs hH hS => ?_)
      refine lv_aload_n X.hx X.hb dX4_readItem_51 rfl (lv_at hl 0 rfl) ?_
      refine gfX4_19 X hH ho dX4_readItem_52 ?_
      refine lv_iconst (v := 1) X.hx X.hb dX4_readItem_55 (by decide) ?_
      refine lv_icmp_ne (tgt := 69) X.hx X.hb dX4_readItem_56 (by decide) (fun c19 => ?_) (fun c19 => ?_)
      · have hf := it_n hf c19
        refine lv_iconst (v := 0) X.hx X.hb dX4_readItem_69 (by decide) ?_
        have e := so2 hf
        rw [e.2] at hH
        exact g_zret X hH hS rfl e.1 (by decide) dX4_readItem_70
      · have hf := it_p hf c19
        refine lv_aload_n X.hx X.hb dX4_readItem_59 rfl (lv_at hl 0 rfl) ?_
        refine lv_iload_n X.hx X.hb dX4_readItem_60 rfl (lv_at hl 2 rfl) ?_
        refine lv_iload X.hx X.hb dX4_readItem_61 (lv_at hl 4 rfl) ?_
        obtain ⟨r20, hr, hf⟩ := bd_e hf
        refine g_callVI (As := [.int x2, .int x4]) (rest := []) X (kX4_fits l ho hr) (C := RX4) (T := TX4) (N := 10) (ci := 4) rfl ho ⟨cdX4_fits, mlX4_60, imX4_fits, seX4_fits, iniX4⟩ hvX4_fits ⟨Nat.le_of_ble_eq_true rfl, Nat.le_of_ble_eq_true rfl⟩ hH hS hl rfl rfl (Nat.le_of_ble_eq_true rfl) ⟨Nat.le_refl 0, Nat.le_refl 0⟩ dX4_readItem_63 (fun H locs hH hS => ?_)
        refine lv_if_ne (tgt := 71) X.hx X.hb dX4_readItem_66 (by decide) (fun c21 => ?_) (fun c21 => ?_)
        · have hf := it_n hf c21
          refine lv_aload_n X.hx X.hb dX4_readItem_71 rfl (lv_at hl 0 rfl) ?_
          refine gfX4_31 X hH ho dX4_readItem_72 ?_
          refine lv_iload X.hx X.hb dX4_readItem_75 (lv_at hl 4 rfl) ?_
          refine lv_aload_n X.hx X.hb dX4_readItem_77 rfl (lv_at hl 0 rfl) ?_
          refine gfX4_28 X hH ho dX4_readItem_78 ?_
          obtain ⟨hg, hf⟩ := gd_e hf
          refine g_iast X hH hS ⟨_, ho, rfl⟩ hg dX4_readItem_81 (fun H locs hH hS => ?_)
          obtain ⟨σ22, he, hf⟩ := stp_e hf
          rw [← he] at hH
          clear he
          refine lv_iinc (v := x4 + 1) (lv' := [(4, .int (x4 + 1)), (0, .ref (gad G o 0)), (1, .ref (gad G q1 0)), (2, .int x2), (3, .int x3)]) X.hx X.hb dX4_readItem_82 hl (k := 4) rfl rfl (by decide) rfl (fun ls hl => ?_)
          refine lv_goto (tgt := 41) X.hx X.hb dX4_readItem_85 (by decide) ?_
          exact ih _ _ _ _ _ hq1 hf _ _ _ hH hS (lv_sub hl [1, 2, 3, 4, 0] rfl)
        · have hf := it_p hf c21
          refine lv_iconst (v := 0) X.hx X.hb dX4_readItem_69 (by decide) ?_
          have e := so2 hf
          rw [e.2] at hH
          exact g_zret X hH hS rfl e.1 (by decide) dX4_readItem_70
set_option maxRecDepth 20000 in
set_option maxHeartbeats 4000000 in
theorem kX4_readItem (l : Launch) {G : gG} {σ : Mem} {r : Int32} {σ' : Mem} {o : Nat} {q1 : Nat} (ho : gsh G o = some 4) (hq1 : gsh G q1 = some 1) (hf : fX4_readItem σ o q1 = some (r, σ')) : CM l yX4_readItem cX4_readItem 5 (some .boolean) 3 62 G σ [.ref (gad G o 0), .ref (gad G q1 0)] (some (.int r)) σ' := by
  refine CM.of (by decide) (Nat.le_of_ble_eq_true rfl) (fun p e s m below meth c ls X hH hl => ?_)
  have X : gX p s m _ meth c yX4_readItem cX4_readItem 5 (some .boolean) RX4 G := X
  have hS : va_S (gAA G) s.heap s.heap [] := va_S.rf
  have hl : lv_has ls 5 [(0, .ref (gad G o 0)), (1, .ref (gad G q1 0))] := hl
  rw [fX4_readItem.eq_1] at hf
  refine lv_aload_n X.hx X.hb dX4_readItem_0 rfl (lv_at hl 0 rfl) ?_
  refine gfX4_19 X hH ho dX4_readItem_1 ?_
  refine lv_istore_n (lv' := [(2, .int (mI σ o 2)), (0, .ref (gad G o 0)), (1, .ref (gad G q1 0))]) X.hx X.hb dX4_readItem_4 rfl hl (by decide) rfl (fun ls hl => ?_)
  refine lv_aload_n X.hx X.hb dX4_readItem_5 rfl (lv_at hl 1 rfl) ?_
  refine lv_iload_n X.hx X.hb dX4_readItem_6 rfl (lv_at hl 0 rfl) ?_
  refine lv_aload_n X.hx X.hb dX4_readItem_7 rfl (lv_at hl 2 rfl) ?_
  obtain ⟨r23, hr, hf⟩ := bd_e hf
  refine g_callVI (As := [.int (mI σ o 2), .ref (gad G q1 0)]) (rest := []) X (kX4_mayBegin l ho hq1 hr) (C := RX4) (T := TX4) (N := 10) (ci := 4) rfl ho ⟨cdX4_mayBegin, mlX4_56, imX4_mayBegin, seX4_mayBegin, iniX4⟩ hvX4_mayBegin ⟨Nat.le_of_ble_eq_true rfl, Nat.le_of_ble_eq_true rfl⟩ hH hS hl rfl rfl (Nat.le_of_ble_eq_true rfl) ⟨Nat.le_refl 0, Nat.le_refl 0⟩ dX4_readItem_8 (fun H locs hH hS => ?_)
  refine lv_if_ne (tgt := 16) X.hx X.hb dX4_readItem_11 (by decide) (fun c24 => ?_) (fun c24 => ?_)
  · have hf := it_n hf c24
    refine lv_iload_n X.hx X.hb dX4_readItem_16 rfl (lv_at hl 0 rfl) ?_
    refine lv_bipush (v := 107) X.hx X.hb dX4_readItem_17 (by decide) ?_
    refine lv_icmp_ne (tgt := 26) X.hx X.hb dX4_readItem_19 (by decide) (fun c25 => ?_) (fun c25 => ?_)
    · have hf := it_n hf c25
      refine lv_iload_n X.hx X.hb dX4_readItem_26 rfl (lv_at hl 0 rfl) ?_
      refine lv_bipush (v := 116) X.hx X.hb dX4_readItem_27 (by decide) ?_
      refine lv_icmp_ne (tgt := 36) X.hx X.hb dX4_readItem_29 (by decide) (fun c26 => ?_) (fun c26 => ?_)
      · have hf := it_n hf c26
        refine lv_iconst (v := 1) X.hx X.hb dX4_readItem_36 (by decide) ?_
        refine lv_istore_n (lv' := [(3, .int (1 : Int32)), (2, .int (mI σ o 2)), (0, .ref (gad G o 0)), (1, .ref (gad G q1 0))]) X.hx X.hb dX4_readItem_37 rfl hl (by decide) rfl (fun ls hl => ?_)
        refine lv_iconst (v := 0) X.hx X.hb dX4_readItem_38 (by decide) ?_
        refine lv_istore (lv' := [(4, .int (0 : Int32)), (3, .int (1 : Int32)), (2, .int (mI σ o 2)), (0, .ref (gad G o 0)), (1, .ref (gad G q1 0))]) X.hx X.hb dX4_readItem_39 hl (by decide) rfl (fun ls hl => ?_)
        exact bX4_readItem_41 X  ho  _ _ _ _ _ _ hq1 hf _ _ _ hH hS (lv_sub hl [3, 4, 2, 1, 0] rfl)
      · have hf := it_p hf c26
        refine lv_iconst (v := 2) X.hx X.hb dX4_readItem_32 (by decide) ?_
        refine lv_goto (tgt := 37) X.hx X.hb dX4_readItem_33 (by decide) ?_
        refine lv_istore_n (lv' := [(3, .int (2 : Int32)), (2, .int (mI σ o 2)), (0, .ref (gad G o 0)), (1, .ref (gad G q1 0))]) X.hx X.hb dX4_readItem_37 rfl hl (by decide) rfl (fun ls hl => ?_)
        refine lv_iconst (v := 0) X.hx X.hb dX4_readItem_38 (by decide) ?_
        refine lv_istore (lv' := [(4, .int (0 : Int32)), (3, .int (2 : Int32)), (2, .int (mI σ o 2)), (0, .ref (gad G o 0)), (1, .ref (gad G q1 0))]) X.hx X.hb dX4_readItem_39 hl (by decide) rfl (fun ls hl => ?_)
        exact bX4_readItem_41 X  ho  _ _ _ _ _ _ hq1 hf _ _ _ hH hS (lv_sub hl [3, 4, 2, 1, 0] rfl)
    · have hf := it_p hf c25
      refine lv_iconst (v := 3) X.hx X.hb dX4_readItem_22 (by decide) ?_
      refine lv_goto (tgt := 37) X.hx X.hb dX4_readItem_23 (by decide) ?_
      refine lv_istore_n (lv' := [(3, .int (3 : Int32)), (2, .int (mI σ o 2)), (0, .ref (gad G o 0)), (1, .ref (gad G q1 0))]) X.hx X.hb dX4_readItem_37 rfl hl (by decide) rfl (fun ls hl => ?_)
      refine lv_iconst (v := 0) X.hx X.hb dX4_readItem_38 (by decide) ?_
      refine lv_istore (lv' := [(4, .int (0 : Int32)), (3, .int (3 : Int32)), (2, .int (mI σ o 2)), (0, .ref (gad G o 0)), (1, .ref (gad G q1 0))]) X.hx X.hb dX4_readItem_39 hl (by decide) rfl (fun ls hl => ?_)
      exact bX4_readItem_41 X  ho  _ _ _ _ _ _ hq1 hf _ _ _ hH hS (lv_sub hl [3, 4, 2, 1, 0] rfl)
  · have hf := it_p hf c24
    refine lv_iconst (v := 0) X.hx X.hb dX4_readItem_14 (by decide) ?_
    have e := so2 hf
    rw [e.2] at hH
    exact g_zret X hH hS rfl e.1 (by decide) dX4_readItem_15
set_option maxRecDepth 20000 in
set_option maxHeartbeats 4000000 in
theorem bX4_readInto_26 {p : Program} {l : Launch} {e : Env} {s : State} {m : MethodId} {args : Array Value} {below : List Frame} {meth : Method} {c : Code} {G : gG} (X : gX p s m args meth c yX4_readInto cX4_readInto 3 (some .int) RX4 G) {o : Nat} (ho : gsh G o = some 4)  {r : Int32} {σ' : Mem} : (∀ (n : Nat) (σ : Mem) (q1 : Nat) (x2 : Int32), gsh G q1 = some 1 → fX4_readInto_26 o n σ q1 x2 = some (r, σ') → ∀ (H : Heap) (locs : List Loc) (ls : Array Slot), gH G σ H → va_S (gAA G) s.heap H locs → lv_has ls 3 [(0, .ref (gad G o 0)), (1, .ref (gad G q1 0)), (2, .int x2)] → WB p l e 4 86 s m args below meth c G (some (.int r)) σ' H locs (F0 m 26 ls [])) := by
  intro n
  induction n with
  | zero => intro σ q1 x2 hq1 hf H locs ls hH hS hl; exact nomatch (show (none : Option (Int32 × Mem)) = some _ from hf)
  | succ n ih =>
    intro σ q1 x2 hq1 hf H locs ls hH hS hl
    rw [fX4_readInto_26.eq_2] at hf
    refine lv_iload_n X.hx X.hb dX4_readInto_26 rfl (lv_at hl 2 rfl) ?_
    refine lv_sipush (v := 200) X.hx X.hb dX4_readInto_27 (by decide) ?_
    refine lv_icmp_gt (tgt := 63) X.hx X.hb dX4_readInto_30 (by decide) (fun c12 => ?_) (fun c12 => ?_)
    · have hf := it_p hf c12
      refine lv_bipush (v := -10) X.hx X.hb dX4_readInto_63 (by decide) ?_
      refine lv_aload_n X.hx X.hb dX4_readInto_65 rfl (lv_at hl 0 rfl) ?_
      refine gfX4_22 X hH ho dX4_readInto_66 ?_
      refine lv_isub X.hx X.hb dX4_readInto_69 ?_
      have e := so2 hf
      rw [e.2] at hH
      exact g_iret X hH hS rfl e.1 dX4_readInto_70
    · have hf := it_n hf c12
      refine lv_aload_n X.hx X.hb dX4_readInto_33 rfl (lv_at hl 0 rfl) ?_
      obtain ⟨σ13, hr, hf⟩ := bd_e hf
      refine g_callVV (As := []) (rest := []) X (kX4_nextToken l ho hr) (C := RX4) (T := TX4) (N := 10) (ci := 4) rfl ho ⟨cdX4_nextToken, mlX4_49, imX4_nextToken, seX4_nextToken, iniX4⟩ hvX4_nextToken ⟨Nat.le_of_ble_eq_true rfl, Nat.le_of_ble_eq_true rfl⟩ hH hS hl rfl rfl (Nat.le_of_ble_eq_true rfl) ⟨Nat.le_refl 0, Nat.le_refl 0⟩ dX4_readInto_34 (fun H locs hH hS => ?_)
      refine lv_aload_n X.hx X.hb dX4_readInto_37 rfl (lv_at hl 0 rfl) ?_
      refine gfX4_19 X hH ho dX4_readInto_38 ?_
      refine lv_if_ne (tgt := 46) X.hx X.hb dX4_readInto_41 (by decide) (fun c14 => ?_) (fun c14 => ?_)
      · have hf := it_n hf c14
        refine lv_aload_n X.hx X.hb dX4_readInto_46 rfl (lv_at hl 0 rfl) ?_
        refine lv_aload_n X.hx X.hb dX4_readInto_47 rfl (lv_at hl 1 rfl) ?_
        obtain ⟨r15, σ16, hr, hf⟩ := bd2_e hf
        refine g_callVI (As := [.ref (gad G q1 0)]) (rest := []) X (kX4_readItem l ho hq1 hr) (C := RX4) (T := TX4) (N := 10) (ci := 4) rfl ho ⟨cdX4_readItem, mlX4_52, imX4_readItem, seX4_readItem, iniX4⟩ hvX4_readItem ⟨Nat.le_of_ble_eq_true rfl, Nat.le_of_ble_eq_true rfl⟩ hH hS hl rfl rfl (Nat.le_of_ble_eq_true rfl) ⟨Nat.le_refl 0, Nat.le_refl 0⟩ dX4_readInto_48 (fun H locs hH hS => ?_)
        refine lv_if_ne (tgt := 57) X.hx X.hb dX4_readInto_51 (by decide) (fun c17 => ?_) (fun c17 => ?_)
        · have hf := it_n hf c17
          refine lv_iinc (v := x2 + 1) (lv' := [(2, .int (x2 + 1)), (0, .ref (gad G o 0)), (1, .ref (gad G q1 0))]) X.hx X.hb dX4_readInto_57 hl (k := 2) rfl rfl (by decide) rfl (fun ls hl => ?_)
          refine lv_goto (tgt := 26) X.hx X.hb dX4_readInto_60 (by decide) ?_
          exact ih _ _ _ hq1 hf _ _ _ hH hS (lv_sub hl [1, 2, 0] rfl)
        · have hf := it_p hf c17
          refine lv_goto (tgt := 63) X.hx X.hb dX4_readInto_54 (by decide) ?_
          refine lv_bipush (v := -10) X.hx X.hb dX4_readInto_63 (by decide) ?_
          refine lv_aload_n X.hx X.hb dX4_readInto_65 rfl (lv_at hl 0 rfl) ?_
          refine gfX4_22 X hH ho dX4_readInto_66 ?_
          refine lv_isub X.hx X.hb dX4_readInto_69 ?_
          have e := so2 hf
          rw [e.2] at hH
          exact g_iret X hH hS rfl e.1 dX4_readInto_70
      · have hf := it_p hf c14
        refine lv_iload_n X.hx X.hb dX4_readInto_44 rfl (lv_at hl 2 rfl) ?_
        have e := so2 hf
        rw [e.2] at hH
        exact g_iret X hH hS rfl e.1 dX4_readInto_45
set_option maxRecDepth 20000 in
set_option maxHeartbeats 4000000 in
theorem kX4_readInto (l : Launch) {G : gG} {σ : Mem} {r : Int32} {σ' : Mem} {o : Nat} {q1 : Nat} (ho : gsh G o = some 4) (hq1 : gsh G q1 = some 1) (hf : fX4_readInto σ o q1 = some (r, σ')) : CM l yX4_readInto cX4_readInto 3 (some .int) 4 86 G σ [.ref (gad G o 0), .ref (gad G q1 0)] (some (.int r)) σ' := by
  refine CM.of (by decide) (Nat.le_of_ble_eq_true rfl) (fun p e s m below meth c ls X hH hl => ?_)
  have X : gX p s m _ meth c yX4_readInto cX4_readInto 3 (some .int) RX4 G := X
  have hS : va_S (gAA G) s.heap s.heap [] := va_S.rf
  have hl : lv_has ls 3 [(0, .ref (gad G o 0)), (1, .ref (gad G q1 0))] := hl
  rw [fX4_readInto.eq_1] at hf
  refine lv_aload_n X.hx X.hb dX4_readInto_0 rfl (lv_at hl 1 rfl) ?_
  obtain ⟨σ18, hr, hf⟩ := bd_e hf
  refine g_callVV (As := []) (rest := []) X (kX1_forget l hq1 hr) (C := RX1) (T := TX1) (N := 11) (ci := 1) rfl hq1 ⟨cdX1_forget, mlX4_44, imX1_forget, seX1_forget, iniX1⟩ hvX1_forget ⟨Nat.le_of_ble_eq_true rfl, Nat.le_of_ble_eq_true rfl⟩ hH hS hl rfl rfl (Nat.le_of_ble_eq_true rfl) ⟨Nat.le_refl 0, Nat.le_refl 0⟩ dX4_readInto_1 (fun H locs hH hS => ?_)
  refine lv_aload_n X.hx X.hb dX4_readInto_4 rfl (lv_at hl 0 rfl) ?_
  refine lv_iconst (v := 0) X.hx X.hb dX4_readInto_5 (by decide) ?_
  refine pfX4_25 X hH hS ho  dX4_readInto_6 (fun H locs hH hS => ?_)
  obtain ⟨σ19, he, hf⟩ := stp_e hf
  rw [← he] at hH
  clear he
  refine lv_aload_n X.hx X.hb dX4_readInto_9 rfl (lv_at hl 0 rfl) ?_
  refine lv_iconst (v := 0) X.hx X.hb dX4_readInto_10 (by decide) ?_
  refine pfX4_34 X hH hS ho (by decide) dX4_readInto_11 (fun H locs hH hS => ?_)
  obtain ⟨σ20, he, hf⟩ := stp_e hf
  rw [← he] at hH
  clear he
  refine lv_aload_n X.hx X.hb dX4_readInto_14 rfl (lv_at hl 0 rfl) ?_
  refine lv_iconst (v := 0) X.hx X.hb dX4_readInto_15 (by decide) ?_
  refine pfX4_38 X hH hS ho (by decide) dX4_readInto_16 (fun H locs hH hS => ?_)
  obtain ⟨σ21, he, hf⟩ := stp_e hf
  rw [← he] at hH
  clear he
  refine lv_aload_n X.hx X.hb dX4_readInto_19 rfl (lv_at hl 0 rfl) ?_
  refine lv_iconst (v := 0) X.hx X.hb dX4_readInto_20 (by decide) ?_
  refine pfX4_41 X hH hS ho (by decide) dX4_readInto_21 (fun H locs hH hS => ?_)
  obtain ⟨σ22, he, hf⟩ := stp_e hf
  rw [← he] at hH
  clear he
  refine lv_iconst (v := 0) X.hx X.hb dX4_readInto_24 (by decide) ?_
  refine lv_istore_n (lv' := [(2, .int (0 : Int32)), (0, .ref (gad G o 0)), (1, .ref (gad G q1 0))]) X.hx X.hb dX4_readInto_25 rfl hl (by decide) rfl (fun ls hl => ?_)
  exact bX4_readInto_26 X  ho  _ _ _ _ hq1 hf _ _ _ hH hS (lv_sub hl [1, 2, 0] rfl)
set_option maxRecDepth 20000 in
set_option maxHeartbeats 4000000 in
theorem kX5_type (l : Launch) {G : gG} {σ : Mem} {r : Int32} {σ' : Mem} {o : Nat} {x1 : Int32} (ho : gsh G o = some 5)  (hf : fX5_type σ o x1 = some (r, σ')) : CM l yX5_type cX5_type 2 (some .int) 1 21 G σ [.ref (gad G o 0), .int x1] (some (.int r)) σ' := by
  refine CM.of (by decide) (Nat.le_of_ble_eq_true rfl) (fun p e s m below meth c ls X hH hl => ?_)
  have X : gX p s m _ meth c yX5_type cX5_type 2 (some .int) RX5 G := X
  have hS : va_S (gAA G) s.heap s.heap [] := va_S.rf
  have hl : lv_has ls 2 [(0, .ref (gad G o 0)), (1, .int x1)] := hl
  rw [fX5_type.eq_1] at hf
  refine lv_iload_n X.hx X.hb dX5_type_0 rfl (lv_at hl 1 rfl) ?_
  refine lv_if_lt (tgt := 11) X.hx X.hb dX5_type_1 (by decide) (fun c8 => ?_) (fun c8 => ?_)
  · have hf := it_p hf c8
    refine lv_iconst (v := -1) X.hx X.hb dX5_type_11 (by decide) ?_
    have e := so2 hf
    rw [e.2] at hH
    exact g_iret X hH hS rfl e.1 dX5_type_12
  · have hf := it_n hf c8
    refine lv_iload_n X.hx X.hb dX5_type_4 rfl (lv_at hl 1 rfl) ?_
    refine lv_sipush (v := 255) X.hx X.hb dX5_type_5 (by decide) ?_
    refine lv_icmp_le (tgt := 13) X.hx X.hb dX5_type_8 (by decide) (fun c9 => ?_) (fun c9 => ?_)
    · have hf := it_p hf c9
      refine lv_aload_n X.hx X.hb dX5_type_13 rfl (lv_at hl 0 rfl) ?_
      refine gfX5_10 X hH ho dX5_type_14 ?_
      have h10 : gsh G (mP σ o 0) = some 4 := hH.2.2.1 _ _ _ _ ho rfl
      refine lv_iload_n X.hx X.hb dX5_type_17 rfl (lv_at hl 1 rfl) ?_
      obtain ⟨r11, σ12, hr, hf⟩ := bd2_e hf
      refine g_callVI (As := [.int x1]) (rest := []) X (kX4_append l h10 hr) (C := RX4) (T := TX4) (N := 10) (ci := 4) rfl h10 ⟨cdX4_append, mlX5_75, imX4_append, seX4_append, iniX4⟩ hvX4_append ⟨Nat.le_of_ble_eq_true rfl, Nat.le_of_ble_eq_true rfl⟩ hH hS hl rfl rfl (Nat.le_of_ble_eq_true rfl) ⟨Nat.le_refl 0, Nat.le_refl 0⟩ dX5_type_18 (fun H locs hH hS => ?_)
      refine lv_if_eq (tgt := 34) X.hx X.hb dX5_type_21 (by decide) (fun c13 => ?_) (fun c13 => ?_)
      · have hf := it_p hf c13
        refine lv_bipush (v := -3) X.hx X.hb dX5_type_34 (by decide) ?_
        have e := so2 hf
        rw [e.2] at hH
        exact g_iret X hH hS rfl e.1 dX5_type_36
      · have hf := it_n hf c13
        refine lv_aload_n X.hx X.hb dX5_type_24 rfl (lv_at hl 0 rfl) ?_
        refine gfX5_10 X hH ho dX5_type_25 ?_
        have h14 : gsh G (mP σ12 o 0) = some 4 := hH.2.2.1 _ _ _ _ ho rfl
        refine gfX5_79 X hH h14 dX5_type_28 ?_
        refine lv_goto (tgt := 36) X.hx X.hb dX5_type_31 (by decide) ?_
        have e := so2 hf
        rw [e.2] at hH
        exact g_iret X hH hS rfl e.1 dX5_type_36
    · have hf := it_n hf c9
      refine lv_iconst (v := -1) X.hx X.hb dX5_type_11 (by decide) ?_
      have e := so2 hf
      rw [e.2] at hH
      exact g_iret X hH hS rfl e.1 dX5_type_12
set_option maxRecDepth 20000 in
set_option maxHeartbeats 4000000 in
theorem kX5_clear (l : Launch) {G : gG} {σ : Mem} {r : Int32} {σ' : Mem} {o : Nat} (ho : gsh G o = some 5)  (hf : fX5_clear σ o = some (r, σ')) : CM l yX5_clear cX5_clear 2 (some .int) 0 0 G σ [.ref (gad G o 0)] (some (.int r)) σ' := by
  refine CM.of (by decide) (Nat.le_of_ble_eq_true rfl) (fun p e s m below meth c ls X hH hl => ?_)
  have X : gX p s m _ meth c yX5_clear cX5_clear 2 (some .int) RX5 G := X
  have hS : va_S (gAA G) s.heap s.heap [] := va_S.rf
  have hl : lv_has ls 2 [(0, .ref (gad G o 0))] := hl
  rw [fX5_clear.eq_1] at hf
  refine lv_aload_n X.hx X.hb dX5_clear_0 rfl (lv_at hl 0 rfl) ?_
  refine gfX5_10 X hH ho dX5_clear_1 ?_
  have h4 : gsh G (mP σ o 0) = some 4 := hH.2.2.1 _ _ _ _ ho rfl
  refine gfX5_79 X hH h4 dX5_clear_4 ?_
  refine lv_istore_n (lv' := [(1, .int (mI σ (mP σ o 0) 0)), (0, .ref (gad G o 0))]) X.hx X.hb dX5_clear_7 rfl hl (by decide) rfl (fun ls hl => ?_)
  refine lv_aload_n X.hx X.hb dX5_clear_8 rfl (lv_at hl 1 rfl) ?_
  refine gfX5_10 X hH ho dX5_clear_9 ?_
  have h5 : gsh G (mP σ o 0) = some 4 := hH.2.2.1 _ _ _ _ ho rfl
  refine lv_iconst (v := 0) X.hx X.hb dX5_clear_12 (by decide) ?_
  refine pfX5_79 X hH hS h5  dX5_clear_13 (fun H locs hH hS => ?_)
  obtain ⟨σ6, he, hf⟩ := stp_e hf
  rw [← he] at hH
  clear he
  refine lv_iload_n X.hx X.hb dX5_clear_16 rfl (lv_at hl 0 rfl) ?_
  have e := so2 hf
  rw [e.2] at hH
  exact g_iret X hH hS rfl e.1 dX5_clear_17
set_option maxRecDepth 20000 in
set_option maxHeartbeats 4000000 in
theorem kX5_island (l : Launch) {G : gG} {σ : Mem} {r : Int32} {σ' : Mem} {o : Nat} (ho : gsh G o = some 5)  (hf : fX5_island σ o = some (r, σ')) : CM l yX5_island cX5_island 3 (some .int) 5 108 G σ [.ref (gad G o 0)] (some (.int r)) σ' := by
  refine CM.of (by decide) (Nat.le_of_ble_eq_true rfl) (fun p e s m below meth c ls X hH hl => ?_)
  have X : gX p s m _ meth c yX5_island cX5_island 3 (some .int) RX5 G := X
  have hS : va_S (gAA G) s.heap s.heap [] := va_S.rf
  have hl : lv_has ls 3 [(0, .ref (gad G o 0))] := hl
  rw [fX5_island.eq_1] at hf
  refine lv_aload_n X.hx X.hb dX5_island_0 rfl (lv_at hl 0 rfl) ?_
  refine gfX5_10 X hH ho dX5_island_1 ?_
  have h18 : gsh G (mP σ o 0) = some 4 := hH.2.2.1 _ _ _ _ ho rfl
  refine lv_aload_n X.hx X.hb dX5_island_4 rfl (lv_at hl 0 rfl) ?_
  refine gfX5_23 X hH ho dX5_island_5 ?_
  have h19 : gsh G (mP σ o 2) = some 1 := hH.2.2.1 _ _ _ _ ho rfl
  obtain ⟨r20, σ21, hr, hf⟩ := bd2_e hf
  refine g_callVI (As := [.ref (gad G (mP σ o 2) 0)]) (rest := []) X (kX4_readInto l h18 h19 hr) (C := RX4) (T := TX4) (N := 10) (ci := 4) rfl h18 ⟨cdX4_readInto, mlX5_82, imX4_readInto, seX4_readInto, iniX4⟩ hvX4_readInto ⟨Nat.le_of_ble_eq_true rfl, Nat.le_of_ble_eq_true rfl⟩ hH hS hl rfl rfl (Nat.le_of_ble_eq_true rfl) ⟨Nat.le_refl 0, Nat.le_refl 0⟩ dX5_island_8 (fun H locs hH hS => ?_)
  refine lv_istore_n (lv' := [(1, .int r20), (0, .ref (gad G o 0))]) X.hx X.hb dX5_island_11 rfl hl (by decide) rfl (fun ls hl => ?_)
  refine lv_iload_n X.hx X.hb dX5_island_12 rfl (lv_at hl 0 rfl) ?_
  refine lv_if_ge (tgt := 18) X.hx X.hb dX5_island_13 (by decide) (fun c22 => ?_) (fun c22 => ?_)
  · have hf := it_p hf c22
    refine lv_aload_n X.hx X.hb dX5_island_18 rfl (lv_at hl 1 rfl) ?_
    refine gfX5_19 X hH ho dX5_island_19 ?_
    have h23 : gsh G (mP σ21 o 1) = some 1 := hH.2.2.1 _ _ _ _ ho rfl
    refine lv_astore_n (lv' := [(2, .ref (gad G (mP σ21 o 1) 0)), (1, .int r20), (0, .ref (gad G o 0))]) X.hx X.hb dX5_island_22 rfl hl (by decide) rfl (fun ls hl => ?_)
    refine lv_aload_n X.hx X.hb dX5_island_23 rfl (lv_at hl 2 rfl) ?_
    refine lv_aload_n X.hx X.hb dX5_island_24 rfl (lv_at hl 2 rfl) ?_
    refine gfX5_23 X hH ho dX5_island_25 ?_
    have h24 : gsh G (mP σ21 o 2) = some 1 := hH.2.2.1 _ _ _ _ ho rfl
    refine pfX5_19 X hH hS ho h24 dX5_island_28 (fun H locs hH hS => ?_)
    obtain ⟨σ25, he, hf⟩ := stp_e hf
    rw [← he] at hH
    clear he
    refine lv_aload_n X.hx X.hb dX5_island_31 rfl (lv_at hl 2 rfl) ?_
    refine lv_aload_n X.hx X.hb dX5_island_32 rfl (lv_at hl 0 rfl) ?_
    refine pfX5_23 X hH hS ho h23 dX5_island_33 (fun H locs hH hS => ?_)
    obtain ⟨σ26, he, hf⟩ := stp_e hf
    rw [← he] at hH
    clear he
    refine lv_aload_n X.hx X.hb dX5_island_36 rfl (lv_at hl 2 rfl) ?_
    refine gfX5_10 X hH ho dX5_island_37 ?_
    have h27 : gsh G (mP σ26 o 0) = some 4 := hH.2.2.1 _ _ _ _ ho rfl
    refine lv_iconst (v := 0) X.hx X.hb dX5_island_40 (by decide) ?_
    refine pfX5_79 X hH hS h27  dX5_island_41 (fun H locs hH hS => ?_)
    obtain ⟨σ28, he, hf⟩ := stp_e hf
    rw [← he] at hH
    clear he
    refine lv_aload_n X.hx X.hb dX5_island_44 rfl (lv_at hl 2 rfl) ?_
    refine gfX5_29 X hH ho dX5_island_45 ?_
    have h29 : gsh G (mP σ28 o 3) = some 2 := hH.2.2.1 _ _ _ _ ho rfl
    obtain ⟨σ30, hr, hf⟩ := bd_e hf
    refine g_callVV (As := []) (rest := []) X (kX2_beginAnew l h29 hr) (C := RX2) (T := TX2) (N := 6) (ci := 2) rfl h29 ⟨cdX2_beginAnew, mlX5_86, imX2_beginAnew, seX2_beginAnew, iniX2⟩ hvX2_beginAnew ⟨Nat.le_of_ble_eq_true rfl, Nat.le_of_ble_eq_true rfl⟩ hH hS hl rfl rfl (Nat.le_of_ble_eq_true rfl) ⟨Nat.le_refl 0, Nat.le_refl 0⟩ dX5_island_48 (fun H locs hH hS => ?_)
    refine lv_aload_n X.hx X.hb dX5_island_51 rfl (lv_at hl 2 rfl) ?_
    refine gfX5_36 X hH ho dX5_island_52 ?_
    have h31 : gsh G (mP σ30 o 4) = some 0 := hH.2.2.1 _ _ _ _ ho rfl
    refine lv_iconst (v := 0) X.hx X.hb dX5_island_55 (by decide) ?_
    refine pfX5_89 X hH hS h31  dX5_island_56 (fun H locs hH hS => ?_)
    obtain ⟨σ32, he, hf⟩ := stp_e hf
    rw [← he] at hH
    clear he
    refine lv_aload_n X.hx X.hb dX5_island_59 rfl (lv_at hl 2 rfl) ?_
    refine lv_iconst (v := 0) X.hx X.hb dX5_island_60 (by decide) ?_
    refine pfX5_44 X hH hS ho  dX5_island_61 (fun H locs hH hS => ?_)
    obtain ⟨σ33, he, hf⟩ := stp_e hf
    rw [← he] at hH
    clear he
    refine lv_aload_n X.hx X.hb dX5_island_64 rfl (lv_at hl 2 rfl) ?_
    refine lv_iconst (v := 0) X.hx X.hb dX5_island_65 (by decide) ?_
    refine pfX5_62 X hH hS ho  dX5_island_66 (fun H locs hH hS => ?_)
    obtain ⟨σ34, he, hf⟩ := stp_e hf
    rw [← he] at hH
    clear he
    refine lv_iload_n X.hx X.hb dX5_island_69 rfl (lv_at hl 1 rfl) ?_
    have e := so2 hf
    rw [e.2] at hH
    exact g_iret X hH hS rfl e.1 dX5_island_70
  · have hf := it_n hf c22
    refine lv_iload_n X.hx X.hb dX5_island_16 rfl (lv_at hl 0 rfl) ?_
    have e := so2 hf
    rw [e.2] at hH
    exact g_iret X hH hS rfl e.1 dX5_island_17
