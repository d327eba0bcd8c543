theorem dX6_init_0 : decode cX6_init 0 = .ok (.aload_n 0, 1) := by decide +kernel
theorem dX6_init_1 : decode cX6_init 1 = .ok (.invokespecial 3, 3) := by decide +kernel
theorem dX6_init_4 : decode cX6_init 4 = .ok (.aload_n 0, 1) := by decide +kernel
theorem dX6_init_5 : decode cX6_init 5 = .ok (.iload_n 2, 1) := by decide +kernel
theorem dX6_init_6 : decode cX6_init 6 = .ok (.putfield 9, 3) := by decide +kernel
theorem dX6_init_9 : decode cX6_init 9 = .ok (.aload_n 0, 1) := by decide +kernel
theorem dX6_init_10 : decode cX6_init 10 = .ok (.bipush 13, 2) := by decide +kernel
theorem dX6_init_12 : decode cX6_init 12 = .ok (.newarray .int, 2) := by decide +kernel
theorem dX6_init_14 : decode cX6_init 14 = .ok (.putfield 15, 3) := by decide +kernel
theorem dX6_init_17 : decode cX6_init 17 = .ok (.aload_n 1, 1) := by decide +kernel
theorem dX6_init_18 : decode cX6_init 18 = .ok (.getfield 19, 3) := by decide +kernel
theorem dX6_init_21 : decode cX6_init 21 = .ok (.i2l, 1) := by decide +kernel
theorem dX6_init_22 : decode cX6_init 22 = .ok (.ldc2_w 24, 3) := by decide +kernel
theorem dX6_init_25 : decode cX6_init 25 = .ok (.lmul, 1) := by decide +kernel
theorem dX6_init_26 : decode cX6_init 26 = .ok (.aload_n 1, 1) := by decide +kernel
theorem dX6_init_27 : decode cX6_init 27 = .ok (.getfield 26, 3) := by decide +kernel
theorem dX6_init_30 : decode cX6_init 30 = .ok (.i2l, 1) := by decide +kernel
theorem dX6_init_31 : decode cX6_init 31 = .ok (.ladd, 1) := by decide +kernel
theorem dX6_init_32 : decode cX6_init 32 = .ok (.ldc2_w 29, 3) := by decide +kernel
theorem dX6_init_35 : decode cX6_init 35 = .ok (.lmul, 1) := by decide +kernel
theorem dX6_init_36 : decode cX6_init 36 = .ok (.aload_n 1, 1) := by decide +kernel
theorem dX6_init_37 : decode cX6_init 37 = .ok (.getfield 31, 3) := by decide +kernel
theorem dX6_init_40 : decode cX6_init 40 = .ok (.i2l, 1) := by decide +kernel
theorem dX6_init_41 : decode cX6_init 41 = .ok (.ladd, 1) := by decide +kernel
theorem dX6_init_42 : decode cX6_init 42 = .ok (.lstore_n 3, 1) := by decide +kernel
theorem dX6_init_43 : decode cX6_init 43 = .ok (.aload_n 0, 1) := by decide +kernel
theorem dX6_init_44 : decode cX6_init 44 = .ok (.getfield 15, 3) := by decide +kernel
theorem dX6_init_47 : decode cX6_init 47 = .ok (.arraylength, 1) := by decide +kernel
theorem dX6_init_48 : decode cX6_init 48 = .ok (.iconst 1, 1) := by decide +kernel
theorem dX6_init_49 : decode cX6_init 49 = .ok (.isub, 1) := by decide +kernel
theorem dX6_init_50 : decode cX6_init 50 = .ok (.istore 5, 2) := by decide +kernel
theorem dX6_init_52 : decode cX6_init 52 = .ok (.iload 5, 2) := by decide +kernel
theorem dX6_init_54 : decode cX6_init 54 = .ok (.ifCond .lt 28, 3) := by decide +kernel
theorem dX6_init_57 : decode cX6_init 57 = .ok (.aload_n 0, 1) := by decide +kernel
theorem dX6_init_58 : decode cX6_init 58 = .ok (.getfield 15, 3) := by decide +kernel
theorem dX6_init_61 : decode cX6_init 61 = .ok (.iload 5, 2) := by decide +kernel
theorem dX6_init_63 : decode cX6_init 63 = .ok (.lload_n 3, 1) := by decide +kernel
theorem dX6_init_64 : decode cX6_init 64 = .ok (.ldc2_w 34, 3) := by decide +kernel
theorem dX6_init_67 : decode cX6_init 67 = .ok (.lrem, 1) := by decide +kernel
theorem dX6_init_68 : decode cX6_init 68 = .ok (.l2i, 1) := by decide +kernel
theorem dX6_init_69 : decode cX6_init 69 = .ok (.iastore, 1) := by decide +kernel
theorem dX6_init_70 : decode cX6_init 70 = .ok (.lload_n 3, 1) := by decide +kernel
theorem dX6_init_71 : decode cX6_init 71 = .ok (.ldc2_w 34, 3) := by decide +kernel
theorem dX6_init_74 : decode cX6_init 74 = .ok (.ldiv, 1) := by decide +kernel
theorem dX6_init_75 : decode cX6_init 75 = .ok (.lstore_n 3, 1) := by decide +kernel
theorem dX6_init_76 : decode cX6_init 76 = .ok (.iinc 5 (-1), 3) := by decide +kernel
theorem dX6_init_79 : decode cX6_init 79 = .ok (.goto (-27), 3) := by decide +kernel
theorem dX6_init_82 : decode cX6_init 82 = .ok (.aload_n 0, 1) := by decide +kernel
theorem dX6_init_83 : decode cX6_init 83 = .ok (.aload_n 0, 1) := by decide +kernel
theorem dX6_init_84 : decode cX6_init 84 = .ok (.getfield 15, 3) := by decide +kernel
theorem dX6_init_87 : decode cX6_init 87 = .ok (.iload_n 2, 1) := by decide +kernel
theorem dX6_init_88 : decode cX6_init 88 = .ok (.invokestatic 36, 3) := by decide +kernel
theorem dX6_init_91 : decode cX6_init 91 = .ok (.putfield 40, 3) := by decide +kernel
theorem dX6_init_94 : decode cX6_init 94 = .ok (.return_, 1) := by decide +kernel
set_option maxHeartbeats 4000000 in
set_option maxRecDepth 100000 in
theorem bX6_init_52 {p : Program} {l : Launch} {e : Env} {R : Room} {s : State} {m : MethodId} {args : Array Value} {below : List Frame} {meth : Method} {c : Code} {base : Nat} {D : va_G} {dA : Nat → ClassId} {σ0 : PH} {z : Unit × PH} {F : Nat} (E : x_E p s m args c cX6_init 6 "WireMoney$Signs" D dA) (hr : meth.sig.returnType = none) (hk : meth.locks = false) (hn : meth.name = "<init>") (hfr : R.frames = 1) (hlo : R.locals = 24) : ∀ (n : Nat) (y0 : Nat) (y2 : Int32) (y3 : Int64) (y5 : Int32) (σ : PH) (H : Heap) (locs : List Loc) (ls : Array Slot), x_S base D dA R s σ0 z.2 σ H locs → x_rn (mX6_init_52 F n (some y0) y2 y3 y5) σ = some z → x_lv ls 6 [(0, .inr (.inl (some y0))), (2, .inl y2), (3, .inr (.inr y3)), (5, .inl y5)] → W p l e R s m args below meth c H locs (x_N σ - x_N σ0) (x_U σ - x_U σ0) (x_end below args s base D dA (fun _ => none) σ0 z) (F0 m 52 ls []) := by
  intro n
  induction n with
  | zero =>
    intro y0 y2 y3 y5 σ H locs ls S hM hl
    cases hM
  | succ n ih =>
    intro y0 y2 y3 y5 σ H locs ls S hM hl
    rw [mX6_init_52] at hM
    refine w_iload E hl 3 dX6_init_52 rfl ?_
    refine lv_if_lt (tgt := 82) E.1 E.2.1 dX6_init_54 (by decide) (fun c54 => ?_) (fun c54 => ?_)
    · replace hM := x_okT hM c54
      refine w_aload_n E hl 0 dX6_init_82 rfl ?_
      refine w_aload_n E hl 0 dX6_init_83 rfl ?_
      refine w_rR E S hM lk_6_15 rfl dX6_init_84 (fun v84 hM => ?_)
      refine w_iload_n E hl 1 dX6_init_87 rfl ?_
      refine w_cSi (rest := [va_rf (some y0)]) E S hl hM (kX6_testOf l base D dA F v84 y2) mcX6_testOf ⟨wd_371, wd_372⟩ hfr hlo (by decide) rfl (Nat.le_of_ble_eq_true rfl) dX6_init_88 rfl (fun v88 σ H locs S hM => ?_)
      refine w_wI E S hM lk_6_40 rfl (Or.inr ⟨hn, rfl, rfl⟩) dX6_init_91 (fun σ H locs S hM => ?_)
      exact w_vret E S hM hr hk dX6_init_94
    · replace hM := x_okF hM c54
      refine w_aload_n E hl 0 dX6_init_57 rfl ?_
      refine w_rR E S hM lk_6_15 rfl dX6_init_58 (fun v58 hM => ?_)
      refine w_iload E hl 3 dX6_init_61 rfl ?_
      refine w_lload_n E hl 2 dX6_init_63 rfl ?_
      refine w_ldc2 (v := (10 : Int64)) E wd_370 dX6_init_64 ?_
      refine w_lrem E dX6_init_67 (by decide) ?_
      refine lv_l2i (v := ((x_lrem y3 (10 : Int64)).toInt32)) E.1 E.2.1 dX6_init_68 rfl ?_
      refine w_sI E S hM dX6_init_69 (fun σ H locs S hM => ?_)
      refine w_lload_n E hl 2 dX6_init_70 rfl ?_
      refine w_ldc2 (v := (10 : Int64)) E wd_370 dX6_init_71 ?_
      refine lv_ldiv E.1 E.2.1 dX6_init_74 (by decide) ?_
      refine w_nml hM (fun v75 hM => ?_)
      refine w_lstore_n (lt' := [(3, .inr (.inr v75)), (0, .inr (.inl (some y0))), (2, .inl y2), (5, .inl y5)]) E hl dX6_init_75 (by decide) rfl (fun ls hl => ?_)
      refine w_iincN (ltf := fun v76 => [(5, .inl v76), (3, .inr (.inr v75)), (0, .inr (.inl (some y0))), (2, .inl y2)]) E hl 3 hM dX6_init_76 rfl (by decide) (by decide) (fun _ => rfl) (fun v76 ls hM hl => ?_)
      refine lv_goto (tgt := 52) E.1 E.2.1 dX6_init_79 (by decide) ?_
      exact ih y0 y2 v75 v76 _ _ _ _ S hM (x_lv_sub hl [2, 3, 1, 0] rfl)
theorem mcX6_init : x_mc yX6_init cX6_init 6 none 2 := ⟨wd_366, wd_10, by decide +kernel⟩
set_option maxHeartbeats 4000000 in
set_option maxRecDepth 100000 in
theorem kX6_init (l : Launch) (base : Nat) (D : va_G) (dA : Nat → ClassId) (F : Nat) (r0 : Nat) (r1 : Option Nat) (x2 : Int32) : x_Met l base D dA yX6_init cX6_init 6 none 1 24 [va_rf (some r0), va_rf r1, .int x2] (mX6_init F (some r0) r1 x2) (fun _ => none) := by
  refine x_Met.of [(0, .inr (.inl (some r0))), (1, .inr (.inl r1)), (2, .inl x2)] (by decide) (Nat.le_of_ble_eq_true rfl) rfl rfl ?_
  intro p e R s m args below meth c σ a τ ls hfr hlo E hr hk hn S hM hl
  have E : x_E p s m args c cX6_init 6 "WireMoney$Signs" D dA := E
  unfold mX6_init at hM
  refine w_aload_n E hl 0 dX6_init_0 rfl ?_
  refine w_obj E hl ⟨wd_367, wd_18, wd_19⟩ (by rw [hfr, hlo]; decide) (Nat.le_of_ble_eq_true rfl) dX6_init_1 ?_
  refine w_aload_n E hl 0 dX6_init_4 rfl ?_
  refine w_iload_n E hl 2 dX6_init_5 rfl ?_
  refine w_wI E S hM lk_6_9 rfl (Or.inr ⟨hn, rfl, rfl⟩) dX6_init_6 (fun σ H locs S hM => ?_)
  refine w_aload_n E hl 0 dX6_init_9 rfl ?_
  refine lv_bipush (v := (13 : Int32)) E.1 E.2.1 dX6_init_10 (by decide) ?_
  refine w_newa (atype := .int) E S hM ⟨by decide, rfl, wd_55⟩ dX6_init_12 (fun v12 σ H S hM => ?_)
  refine w_wR E S hM lk_6_15 rfl (Or.inr ⟨hn, rfl, rfl⟩) dX6_init_14 (fun σ H locs S hM => ?_)
  refine w_aload_n E hl 1 dX6_init_17 rfl ?_
  refine w_rI E S hM lk_6_19 rfl dX6_init_18 (fun v18 hM => ?_)
  refine lv_i2l (v := (v18.toInt64)) E.1 E.2.1 dX6_init_21 rfl ?_
  refine w_ldc2 (v := (100000 : Int64)) E wd_368 dX6_init_22 ?_
  refine lv_lmul E.1 E.2.1 dX6_init_25 ?_
  refine w_aload_n E hl 1 dX6_init_26 rfl ?_
  refine w_rI E S hM lk_6_26 rfl dX6_init_27 (fun v27 hM => ?_)
  refine lv_i2l (v := (v27.toInt64)) E.1 E.2.1 dX6_init_30 rfl ?_
  refine lv_ladd E.1 E.2.1 dX6_init_31 ?_
  refine w_ldc2 (v := (10000 : Int64)) E wd_369 dX6_init_32 ?_
  refine lv_lmul E.1 E.2.1 dX6_init_35 ?_
  refine w_aload_n E hl 1 dX6_init_36 rfl ?_
  refine w_rI E S hM lk_6_31 rfl dX6_init_37 (fun v37 hM => ?_)
  refine lv_i2l (v := (v37.toInt64)) E.1 E.2.1 dX6_init_40 rfl ?_
  refine lv_ladd E.1 E.2.1 dX6_init_41 ?_
  refine w_nml hM (fun v42 hM => ?_)
  refine w_lstore_n (lt' := [(3, .inr (.inr v42)), (0, .inr (.inl (some r0))), (1, .inr (.inl r1)), (2, .inl x2)]) E hl dX6_init_42 (by decide) rfl (fun ls hl => ?_)
  refine w_aload_n E hl 1 dX6_init_43 rfl ?_
  refine w_rR E S hM lk_6_15 rfl dX6_init_44 (fun v44 hM => ?_)
  refine w_aL E S hM (by decide) dX6_init_47 (fun v47 hM => ?_)
  refine lv_iconst (v := (1 : Int32)) E.1 E.2.1 dX6_init_48 (by decide) ?_
  refine lv_isub E.1 E.2.1 dX6_init_49 ?_
  refine w_nm hM (fun v50 hM => ?_)
  refine w_istore (lt' := [(5, .inl v50), (3, .inr (.inr v42)), (0, .inr (.inl (some r0))), (1, .inr (.inl r1)), (2, .inl x2)]) E hl dX6_init_50 (by decide) rfl (fun ls hl => ?_)
  exact bX6_init_52 E hr hk hn hfr hlo F r0 x2 v42 v50 _ _ _ _ S hM (x_lv_sub hl [2, 4, 1, 0] rfl)
theorem dX6_digitOf_0 : decode cX6_digitOf 0 = .ok (.iload_n 1, 1) := by decide +kernel
theorem dX6_digitOf_1 : decode cX6_digitOf 1 = .ok (.ifCond .lt 21, 3) := by decide +kernel
theorem dX6_digitOf_4 : decode cX6_digitOf 4 = .ok (.iload_n 1, 1) := by decide +kernel
theorem dX6_digitOf_5 : decode cX6_digitOf 5 = .ok (.aload_n 0, 1) := by decide +kernel
theorem dX6_digitOf_6 : decode cX6_digitOf 6 = .ok (.getfield 15, 3) := by decide +kernel
theorem dX6_digitOf_9 : decode cX6_digitOf 9 = .ok (.arraylength, 1) := by decide +kernel
theorem dX6_digitOf_10 : decode cX6_digitOf 10 = .ok (.if_icmp .ge 12, 3) := by decide +kernel
theorem dX6_digitOf_13 : decode cX6_digitOf 13 = .ok (.aload_n 0, 1) := by decide +kernel
theorem dX6_digitOf_14 : decode cX6_digitOf 14 = .ok (.getfield 15, 3) := by decide +kernel
theorem dX6_digitOf_17 : decode cX6_digitOf 17 = .ok (.iload_n 1, 1) := by decide +kernel
theorem dX6_digitOf_18 : decode cX6_digitOf 18 = .ok (.iaload, 1) := by decide +kernel
theorem dX6_digitOf_19 : decode cX6_digitOf 19 = .ok (.goto 4, 3) := by decide +kernel
theorem dX6_digitOf_22 : decode cX6_digitOf 22 = .ok (.iconst (-1), 1) := by decide +kernel
theorem dX6_digitOf_23 : decode cX6_digitOf 23 = .ok (.ireturn, 1) := by decide +kernel
theorem mcX6_digitOf : x_mc yX6_digitOf cX6_digitOf 2 (some .int) 1 := ⟨wd_555, wd_10, by decide +kernel⟩
set_option maxHeartbeats 4000000 in
set_option maxRecDepth 100000 in
theorem kX6_digitOf (l : Launch) (base : Nat) (D : va_G) (dA : Nat → ClassId) (F : Nat) (r0 : Option Nat) (x1 : Int32) : x_Met l base D dA yX6_digitOf cX6_digitOf 2 (some .int) 0 0 [va_rf r0, .int x1] (mX6_digitOf F r0 x1) (fun x => some (.int x)) := by
  refine x_Met.of [(0, .inr (.inl r0)), (1, .inl x1)] (by decide) (Nat.le_of_ble_eq_true rfl) rfl rfl ?_
  intro p e R s m args below meth c σ a τ ls hfr hlo E hr hk hn S hM hl
  have E : x_E p s m args c cX6_digitOf 2 "WireMoney$Signs" D dA := E
  unfold mX6_digitOf at hM
  refine w_iload_n E hl 1 dX6_digitOf_0 rfl ?_
  refine lv_if_lt (tgt := 22) E.1 E.2.1 dX6_digitOf_1 (by decide) (fun c1 => ?_) (fun c1 => ?_)
  · replace hM := x_okT hM c1
    refine lv_iconst (v := (-1 : Int32)) E.1 E.2.1 dX6_digitOf_22 (by decide) ?_
    exact w_iret E S hM hr hk dX6_digitOf_23
  · replace hM := x_okF hM c1
    refine w_iload_n E hl 1 dX6_digitOf_4 rfl ?_
    refine w_aload_n E hl 0 dX6_digitOf_5 rfl ?_
    refine w_rR E S hM lk_6_15 rfl dX6_digitOf_6 (fun v6 hM => ?_)
    refine w_aL E S hM (by decide) dX6_digitOf_9 (fun v9 hM => ?_)
    refine lv_icmp_ge (tgt := 22) E.1 E.2.1 dX6_digitOf_10 (by decide) (fun c10 => ?_) (fun c10 => ?_)
    · replace hM := x_okT hM c10
      refine lv_iconst (v := (-1 : Int32)) E.1 E.2.1 dX6_digitOf_22 (by decide) ?_
      exact w_iret E S hM hr hk dX6_digitOf_23
    · replace hM := x_okF hM c10
      refine w_aload_n E hl 0 dX6_digitOf_13 rfl ?_
      refine w_rR E S hM lk_6_15 rfl dX6_digitOf_14 (fun v14 hM => ?_)
      refine w_iload_n E hl 1 dX6_digitOf_17 rfl ?_
      refine w_aI E S hM dX6_digitOf_18 (fun v18 hM => ?_)
      refine lv_goto (tgt := 23) E.1 E.2.1 dX6_digitOf_19 (by decide) ?_
      exact w_iret E S hM hr hk dX6_digitOf_23
theorem dX6_fitTest_0 : decode cX6_fitTest 0 = .ok (.aload_n 0, 1) := by decide +kernel
theorem dX6_fitTest_1 : decode cX6_fitTest 1 = .ok (.getfield 15, 3) := by decide +kernel
theorem dX6_fitTest_4 : decode cX6_fitTest 4 = .ok (.aload_n 0, 1) := by decide +kernel
theorem dX6_fitTest_5 : decode cX6_fitTest 5 = .ok (.getfield 9, 3) := by decide +kernel
theorem dX6_fitTest_8 : decode cX6_fitTest 8 = .ok (.invokestatic 36, 3) := by decide +kernel
theorem dX6_fitTest_11 : decode cX6_fitTest 11 = .ok (.aload_n 0, 1) := by decide +kernel
theorem dX6_fitTest_12 : decode cX6_fitTest 12 = .ok (.getfield 40, 3) := by decide +kernel
theorem dX6_fitTest_15 : decode cX6_fitTest 15 = .ok (.if_icmp .ne 7, 3) := by decide +kernel
theorem dX6_fitTest_18 : decode cX6_fitTest 18 = .ok (.iconst 1, 1) := by decide +kernel
theorem dX6_fitTest_19 : decode cX6_fitTest 19 = .ok (.goto 4, 3) := by decide +kernel
theorem dX6_fitTest_22 : decode cX6_fitTest 22 = .ok (.iconst 0, 1) := by decide +kernel
theorem dX6_fitTest_23 : decode cX6_fitTest 23 = .ok (.ireturn, 1) := by decide +kernel
theorem mcX6_fitTest : x_mc yX6_fitTest cX6_fitTest 1 (some .boolean) 0 := ⟨wd_515, wd_10, by decide +kernel⟩
set_option maxHeartbeats 4000000 in
set_option maxRecDepth 100000 in
theorem kX6_fitTest (l : Launch) (base : Nat) (D : va_G) (dA : Nat → ClassId) (F : Nat) (r0 : Option Nat) : x_Met l base D dA yX6_fitTest cX6_fitTest 1 (some .boolean) 1 24 [va_rf r0] (mX6_fitTest F r0) (fun x => some (.int x)) := by
  refine x_Met.of [(0, .inr (.inl r0))] (by decide) (Nat.le_of_ble_eq_true rfl) rfl rfl ?_
  intro p e R s m args below meth c σ a τ ls hfr hlo E hr hk hn S hM hl
  have E : x_E p s m args c cX6_fitTest 1 "WireMoney$Signs" D dA := E
  unfold mX6_fitTest at hM
  refine w_aload_n E hl 0 dX6_fitTest_0 rfl ?_
  refine w_rR E S hM lk_6_15 rfl dX6_fitTest_1 (fun v1 hM => ?_)
  refine w_aload_n E hl 0 dX6_fitTest_4 rfl ?_
  refine w_rI E S hM lk_6_9 rfl dX6_fitTest_5 (fun v5 hM => ?_)
  refine w_cSi (rest := []) E S hl hM (kX6_testOf l base D dA F v1 v5) mcX6_testOf ⟨wd_371, wd_372⟩ hfr hlo (by decide) rfl (Nat.le_of_ble_eq_true rfl) dX6_fitTest_8 rfl (fun v8 σ H locs S hM => ?_)
  refine w_aload_n E hl 0 dX6_fitTest_11 rfl ?_
  refine w_rI E S hM lk_6_40 rfl dX6_fitTest_12 (fun v12 hM => ?_)
  refine lv_icmp_ne (tgt := 22) E.1 E.2.1 dX6_fitTest_15 (by decide) (fun c15 => ?_) (fun c15 => ?_)
  · replace hM := x_okF hM c15
    refine lv_iconst (v := (0 : Int32)) E.1 E.2.1 dX6_fitTest_22 (by decide) ?_
    exact w_zretc E S hM (by decide) hr hk dX6_fitTest_23
  · replace hM := x_okT hM c15
    refine lv_iconst (v := (1 : Int32)) E.1 E.2.1 dX6_fitTest_18 (by decide) ?_
    refine lv_goto (tgt := 23) E.1 E.2.1 dX6_fitTest_19 (by decide) ?_
    exact w_zretc E S hM (by decide) hr hk dX6_fitTest_23
theorem dX6_change_0 : decode cX6_change 0 = .ok (.aload_n 0, 1) := by decide +kernel
theorem dX6_change_1 : decode cX6_change 1 = .ok (.getfield 43, 3) := by decide +kernel
theorem dX6_change_4 : decode cX6_change 4 = .ok (.ifCond .ne 36, 3) := by decide +kernel
theorem dX6_change_7 : decode cX6_change 7 = .ok (.iload_n 1, 1) := by decide +kernel
theorem dX6_change_8 : decode cX6_change 8 = .ok (.ifCond .lt 32, 3) := by decide +kernel
theorem dX6_change_11 : decode cX6_change 11 = .ok (.iload_n 1, 1) := by decide +kernel
theorem dX6_change_12 : decode cX6_change 12 = .ok (.aload_n 0, 1) := by decide +kernel
theorem dX6_change_13 : decode cX6_change 13 = .ok (.getfield 15, 3) := by decide +kernel
theorem dX6_change_16 : decode cX6_change 16 = .ok (.arraylength, 1) := by decide +kernel
theorem dX6_change_17 : decode cX6_change 17 = .ok (.if_icmp .ge 23, 3) := by decide +kernel
theorem dX6_change_20 : decode cX6_change 20 = .ok (.iload_n 2, 1) := by decide +kernel
theorem dX6_change_21 : decode cX6_change 21 = .ok (.ifCond .lt 19, 3) := by decide +kernel
theorem dX6_change_24 : decode cX6_change 24 = .ok (.iload_n 2, 1) := by decide +kernel
theorem dX6_change_25 : decode cX6_change 25 = .ok (.bipush 9, 2) := by decide +kernel
theorem dX6_change_27 : decode cX6_change 27 = .ok (.if_icmp .gt 13, 3) := by decide +kernel
theorem dX6_change_30 : decode cX6_change 30 = .ok (.aload_n 0, 1) := by decide +kernel
theorem dX6_change_31 : decode cX6_change 31 = .ok (.getfield 15, 3) := by decide +kernel
theorem dX6_change_34 : decode cX6_change 34 = .ok (.iload_n 1, 1) := by decide +kernel
theorem dX6_change_35 : decode cX6_change 35 = .ok (.iaload, 1) := by decide +kernel
theorem dX6_change_36 : decode cX6_change 36 = .ok (.iload_n 2, 1) := by decide +kernel
theorem dX6_change_37 : decode cX6_change 37 = .ok (.if_icmp .ne 5, 3) := by decide +kernel
theorem dX6_change_40 : decode cX6_change 40 = .ok (.iconst 0, 1) := by decide +kernel
theorem dX6_change_41 : decode cX6_change 41 = .ok (.ireturn, 1) := by decide +kernel
theorem dX6_change_42 : decode cX6_change 42 = .ok (.aload_n 0, 1) := by decide +kernel
theorem dX6_change_43 : decode cX6_change 43 = .ok (.getfield 15, 3) := by decide +kernel
theorem dX6_change_46 : decode cX6_change 46 = .ok (.iload_n 1, 1) := by decide +kernel
theorem dX6_change_47 : decode cX6_change 47 = .ok (.iload_n 2, 1) := by decide +kernel
theorem dX6_change_48 : decode cX6_change 48 = .ok (.iastore, 1) := by decide +kernel
theorem dX6_change_49 : decode cX6_change 49 = .ok (.aload_n 0, 1) := by decide +kernel
theorem dX6_change_50 : decode cX6_change 50 = .ok (.iconst 1, 1) := by decide +kernel
theorem dX6_change_51 : decode cX6_change 51 = .ok (.putfield 43, 3) := by decide +kernel
theorem dX6_change_54 : decode cX6_change 54 = .ok (.iconst 1, 1) := by decide +kernel
theorem dX6_change_55 : decode cX6_change 55 = .ok (.ireturn, 1) := by decide +kernel
theorem mcX6_change : x_mc yX6_change cX6_change 3 (some .boolean) 2 := ⟨wd_490, wd_10, by decide +kernel⟩
set_option maxHeartbeats 4000000 in
set_option maxRecDepth 100000 in
theorem kX6_change (l : Launch) (base : Nat) (D : va_G) (dA : Nat → ClassId) (F : Nat) (r0 : Option Nat) (x1 : Int32) (x2 : Int32) : x_Met l base D dA yX6_change cX6_change 3 (some .boolean) 0 0 [va_rf r0, .int x1, .int x2] (mX6_change F r0 x1 x2) (fun x => some (.int x)) := by
  refine x_Met.of [(0, .inr (.inl r0)), (1, .inl x1), (2, .inl x2)] (by decide) (Nat.le_of_ble_eq_true rfl) rfl rfl ?_
  intro p e R s m args below meth c σ a τ ls hfr hlo E hr hk hn S hM hl
  have E : x_E p s m args c cX6_change 3 "WireMoney$Signs" D dA := E
  unfold mX6_change at hM
  refine w_aload_n E hl 0 dX6_change_0 rfl ?_
  refine w_rI E S hM lk_6_43 rfl dX6_change_1 (fun v1 hM => ?_)
  refine lv_if_ne (tgt := 40) E.1 E.2.1 dX6_change_4 (by decide) (fun c4 => ?_) (fun c4 => ?_)
  · replace hM := x_okF hM c4
    refine lv_iconst (v := (0 : Int32)) E.1 E.2.1 dX6_change_40 (by decide) ?_
    exact w_zretc E S hM (by decide) hr hk dX6_change_41
  · replace hM := x_okT hM c4
    refine w_iload_n E hl 1 dX6_change_7 rfl ?_
    refine lv_if_lt (tgt := 40) E.1 E.2.1 dX6_change_8 (by decide) (fun c8 => ?_) (fun c8 => ?_)
    · replace hM := x_okT hM c8
      refine lv_iconst (v := (0 : Int32)) E.1 E.2.1 dX6_change_40 (by decide) ?_
      exact w_zretc E S hM (by decide) hr hk dX6_change_41
    · replace hM := x_okF hM c8
      refine w_iload_n E hl 1 dX6_change_11 rfl ?_
      refine w_aload_n E hl 0 dX6_change_12 rfl ?_
      refine w_rR E S hM lk_6_15 rfl dX6_change_13 (fun v13 hM => ?_)
      refine w_aL E S hM (by decide) dX6_change_16 (fun v16 hM => ?_)
      refine lv_icmp_ge (tgt := 40) E.1 E.2.1 dX6_change_17 (by decide) (fun c17 => ?_) (fun c17 => ?_)
      · replace hM := x_okT hM c17
        refine lv_iconst (v := (0 : Int32)) E.1 E.2.1 dX6_change_40 (by decide) ?_
        exact w_zretc E S hM (by decide) hr hk dX6_change_41
      · replace hM := x_okF hM c17
        refine w_iload_n E hl 2 dX6_change_20 rfl ?_
        refine lv_if_lt (tgt := 40) E.1 E.2.1 dX6_change_21 (by decide) (fun c21 => ?_) (fun c21 => ?_)
        · replace hM := x_okT hM c21
          refine lv_iconst (v := (0 : Int32)) E.1 E.2.1 dX6_change_40 (by decide) ?_
          exact w_zretc E S hM (by decide) hr hk dX6_change_41
        · replace hM := x_okF hM c21
          refine w_iload_n E hl 2 dX6_change_24 rfl ?_
          refine lv_bipush (v := (9 : Int32)) E.1 E.2.1 dX6_change_25 (by decide) ?_
          refine lv_icmp_gt (tgt := 40) E.1 E.2.1 dX6_change_27 (by decide) (fun c27 => ?_) (fun c27 => ?_)
          · replace hM := x_okT hM c27
            refine lv_iconst (v := (0 : Int32)) E.1 E.2.1 dX6_change_40 (by decide) ?_
            exact w_zretc E S hM (by decide) hr hk dX6_change_41
          · replace hM := x_okF hM c27
            refine w_aload_n E hl 0 dX6_change_30 rfl ?_
            refine w_rR E S hM lk_6_15 rfl dX6_change_31 (fun v31 hM => ?_)
            refine w_iload_n E hl 1 dX6_change_34 rfl ?_
            refine w_aI E S hM dX6_change_35 (fun v35 hM => ?_)
            refine w_iload_n E hl 2 dX6_change_36 rfl ?_
            refine lv_icmp_ne (tgt := 42) E.1 E.2.1 dX6_change_37 (by decide) (fun c37 => ?_) (fun c37 => ?_)
            · replace hM := x_okF hM c37
              refine w_aload_n E hl 0 dX6_change_42 rfl ?_
              refine w_rR E S hM lk_6_15 rfl dX6_change_43 (fun v43 hM => ?_)
              refine w_iload_n E hl 1 dX6_change_46 rfl ?_
              refine w_iload_n E hl 2 dX6_change_47 rfl ?_
              refine w_sI E S hM dX6_change_48 (fun σ H locs S hM => ?_)
              refine w_aload_n E hl 0 dX6_change_49 rfl ?_
              refine lv_iconst (v := (1 : Int32)) E.1 E.2.1 dX6_change_50 (by decide) ?_
              refine w_wZ E S hM lk_6_43 rfl (Or.inl rfl) dX6_change_51 (fun σ H locs S hM => ?_)
              refine lv_iconst (v := (1 : Int32)) E.1 E.2.1 dX6_change_54 (by decide) ?_
              exact w_zretc E S hM (by decide) hr hk dX6_change_55
            · replace hM := x_okT hM c37
              refine lv_iconst (v := (0 : Int32)) E.1 E.2.1 dX6_change_40 (by decide) ?_
              exact w_zretc E S hM (by decide) hr hk dX6_change_41
theorem dX7_isDown_0 : decode cX7_isDown 0 = .ok (.iload_n 1, 1) := by decide +kernel
theorem dX7_isDown_1 : decode cX7_isDown 1 = .ok (.aload_n 0, 1) := by decide +kernel
theorem dX7_isDown_2 : decode cX7_isDown 2 = .ok (.getfield 25, 3) := by decide +kernel
theorem dX7_isDown_5 : decode cX7_isDown 5 = .ok (.if_icmp .lt 15, 3) := by decide +kernel
theorem dX7_isDown_8 : decode cX7_isDown 8 = .ok (.iload_n 1, 1) := by decide +kernel
theorem dX7_isDown_9 : decode cX7_isDown 9 = .ok (.aload_n 0, 1) := by decide +kernel
theorem dX7_isDown_10 : decode cX7_isDown 10 = .ok (.getfield 28, 3) := by decide +kernel
theorem dX7_isDown_13 : decode cX7_isDown 13 = .ok (.if_icmp .ge 7, 3) := by decide +kernel
theorem dX7_isDown_16 : decode cX7_isDown 16 = .ok (.iconst 1, 1) := by decide +kernel
theorem dX7_isDown_17 : decode cX7_isDown 17 = .ok (.goto 4, 3) := by decide +kernel
theorem dX7_isDown_20 : decode cX7_isDown 20 = .ok (.iconst 0, 1) := by decide +kernel
theorem dX7_isDown_21 : decode cX7_isDown 21 = .ok (.ireturn, 1) := by decide +kernel
theorem mcX7_isDown : x_mc yX7_isDown cX7_isDown 2 (some .boolean) 1 := ⟨wd_535, wd_6, by decide +kernel⟩
set_option maxHeartbeats 4000000 in
set_option maxRecDepth 100000 in
theorem kX7_isDown (l : Launch) (base : Nat) (D : va_G) (dA : Nat → ClassId) (F : Nat) (r0 : Option Nat) (x1 : Int32) : x_Met l base D dA yX7_isDown cX7_isDown 2 (some .boolean) 0 0 [va_rf r0, .int x1] (mX7_isDown F r0 x1) (fun x => some (.int x)) := by
  refine x_Met.of [(0, .inr (.inl r0)), (1, .inl x1)] (by decide) (Nat.le_of_ble_eq_true rfl) rfl rfl ?_
  intro p e R s m args below meth c σ a τ ls hfr hlo E hr hk hn S hM hl
  have E : x_E p s m args c cX7_isDown 2 "WireMoney$Wire" D dA := E
  unfold mX7_isDown at hM
  refine w_iload_n E hl 1 dX7_isDown_0 rfl ?_
  refine w_aload_n E hl 0 dX7_isDown_1 rfl ?_
  refine w_rI E S hM lk_7_25 rfl dX7_isDown_2 (fun v2 hM => ?_)
  refine lv_icmp_lt (tgt := 20) E.1 E.2.1 dX7_isDown_5 (by decide) (fun c5 => ?_) (fun c5 => ?_)
  · replace hM := x_okT hM c5
    refine lv_iconst (v := (0 : Int32)) E.1 E.2.1 dX7_isDown_20 (by decide) ?_
    exact w_zretc E S hM (by decide) hr hk dX7_isDown_21
  · replace hM := x_okF hM c5
    refine w_iload_n E hl 1 dX7_isDown_8 rfl ?_
    refine w_aload_n E hl 0 dX7_isDown_9 rfl ?_
    refine w_rI E S hM lk_7_28 rfl dX7_isDown_10 (fun v10 hM => ?_)
    refine lv_icmp_ge (tgt := 20) E.1 E.2.1 dX7_isDown_13 (by decide) (fun c13 => ?_) (fun c13 => ?_)
    · replace hM := x_okT hM c13
      refine lv_iconst (v := (0 : Int32)) E.1 E.2.1 dX7_isDown_20 (by decide) ?_
      exact w_zretc E S hM (by decide) hr hk dX7_isDown_21
    · replace hM := x_okF hM c13
      refine lv_iconst (v := (1 : Int32)) E.1 E.2.1 dX7_isDown_16 (by decide) ?_
      refine lv_goto (tgt := 21) E.1 E.2.1 dX7_isDown_17 (by decide) ?_
      exact w_zretc E S hM (by decide) hr hk dX7_isDown_21
theorem dX8_init_0 : decode cX8_init 0 = .ok (.aload_n 0, 1) := by decide +kernel
theorem dX8_init_1 : decode cX8_init 1 = .ok (.invokespecial 3, 3) := by decide +kernel
theorem dX8_init_4 : decode cX8_init 4 = .ok (.aload_n 0, 1) := by decide +kernel
theorem dX8_init_5 : decode cX8_init 5 = .ok (.new 9, 3) := by decide +kernel
theorem dX8_init_8 : decode cX8_init 8 = .ok (.dup, 1) := by decide +kernel
theorem dX8_init_9 : decode cX8_init 9 = .ok (.invokespecial 11, 3) := by decide +kernel
theorem dX8_init_12 : decode cX8_init 12 = .ok (.putfield 12, 3) := by decide +kernel
theorem dX8_init_15 : decode cX8_init 15 = .ok (.aload_n 0, 1) := by decide +kernel
theorem dX8_init_16 : decode cX8_init 16 = .ok (.new 16, 3) := by decide +kernel
theorem dX8_init_19 : decode cX8_init 19 = .ok (.dup, 1) := by decide +kernel
theorem dX8_init_20 : decode cX8_init 20 = .ok (.invokespecial 18, 3) := by decide +kernel
theorem dX8_init_23 : decode cX8_init 23 = .ok (.putfield 19, 3) := by decide +kernel
theorem dX8_init_26 : decode cX8_init 26 = .ok (.aload_n 0, 1) := by decide +kernel
theorem dX8_init_27 : decode cX8_init 27 = .ok (.sipush 200, 3) := by decide +kernel
theorem dX8_init_30 : decode cX8_init 30 = .ok (.anewarray 23, 3) := by decide +kernel
theorem dX8_init_33 : decode cX8_init 33 = .ok (.putfield 25, 3) := by decide +kernel
theorem dX8_init_36 : decode cX8_init 36 = .ok (.aload_n 0, 1) := by decide +kernel
theorem dX8_init_37 : decode cX8_init 37 = .ok (.sipush 1000, 3) := by decide +kernel
theorem dX8_init_40 : decode cX8_init 40 = .ok (.anewarray 29, 3) := by decide +kernel
theorem dX8_init_43 : decode cX8_init 43 = .ok (.putfield 31, 3) := by decide +kernel
theorem dX8_init_46 : decode cX8_init 46 = .ok (.aload_n 0, 1) := by decide +kernel
theorem dX8_init_47 : decode cX8_init 47 = .ok (.ldc 35, 2) := by decide +kernel
theorem dX8_init_49 : decode cX8_init 49 = .ok (.putfield 36, 3) := by decide +kernel
theorem dX8_init_52 : decode cX8_init 52 = .ok (.return_, 1) := by decide +kernel
theorem mcX8_init : x_mc yX8_init cX8_init 1 none 0 := ⟨wd_16, wd_1, by decide +kernel⟩
set_option maxHeartbeats 4000000 in
set_option maxRecDepth 100000 in
theorem kX8_init (l : Launch) (base : Nat) (D : va_G) (dA : Nat → ClassId) (F : Nat) (r0 : Nat) : x_Met l base D dA yX8_init cX8_init 1 none 2 43 [va_rf (some r0)] (mX8_init F (some r0)) (fun _ => none) := by
  refine x_Met.of [(0, .inr (.inl (some r0)))] (by decide) (Nat.le_of_ble_eq_true rfl) rfl rfl ?_
  intro p e R s m args below meth c σ a τ ls hfr hlo E hr hk hn S hM hl
  have E : x_E p s m args c cX8_init 1 "WireMoney" D dA := E
  unfold mX8_init at hM
  refine w_aload_n E hl 0 dX8_init_0 rfl ?_
  refine w_obj E hl ⟨wd_17, wd_18, wd_19⟩ (by rw [hfr, hlo]; decide) (Nat.le_of_ble_eq_true rfl) dX8_init_1 ?_
  refine w_aload_n E hl 0 dX8_init_4 rfl ?_
  refine w_new E S hM ⟨by decide, wd_20⟩ dX8_init_5 (fun v5 σ H S hM => ?_)
  refine lv_dup E.1 E.2.1 dX8_init_8 (x_cat _) ?_
  refine w_cI (rest := [va_rf (some v5), va_rf (some r0)]) E S hl hM (kX3_init l base D dA F v5) mcX3_init ⟨wd_22, wd_23, rfl⟩ (by rw [hfr, hlo]; decide) rfl (Nat.le_of_ble_eq_true rfl) dX8_init_9 rfl (fun σ H locs S hM => ?_)
  refine w_wR E S hM lk_8_12 rfl (Or.inr ⟨hn, rfl, rfl⟩) dX8_init_12 (fun σ H locs S hM => ?_)
  refine w_aload_n E hl 0 dX8_init_15 rfl ?_
  refine w_new E S hM ⟨by decide, wd_56⟩ dX8_init_16 (fun v16 σ H S hM => ?_)
  refine lv_dup E.1 E.2.1 dX8_init_19 (x_cat _) ?_
  refine w_cI (rest := [va_rf (some v16), va_rf (some r0)]) E S hl hM (kX0_init l base D dA F v16) mcX0_init ⟨wd_58, wd_59, rfl⟩ (by rw [hfr, hlo]; decide) rfl (Nat.le_of_ble_eq_true rfl) dX8_init_20 rfl (fun σ H locs S hM => ?_)
  refine w_wR E S hM lk_8_19 rfl (Or.inr ⟨hn, rfl, rfl⟩) dX8_init_23 (fun σ H locs S hM => ?_)
  refine w_aload_n E hl 0 dX8_init_26 rfl ?_
  refine lv_sipush (v := (200 : Int32)) E.1 E.2.1 dX8_init_27 (by decide) ?_
  refine w_newq E S hM (by decide) wd_72 dX8_init_30 (fun v30 σ H S hM => ?_)
  refine w_wR E S hM lk_8_25 rfl (Or.inr ⟨hn, rfl, rfl⟩) dX8_init_33 (fun σ H locs S hM => ?_)
  refine w_aload_n E hl 0 dX8_init_36 rfl ?_
  refine lv_sipush (v := (1000 : Int32)) E.1 E.2.1 dX8_init_37 (by decide) ?_
  refine w_newq E S hM (by decide) wd_74 dX8_init_40 (fun v40 σ H S hM => ?_)
  refine w_wR E S hM lk_8_31 rfl (Or.inr ⟨hn, rfl, rfl⟩) dX8_init_43 (fun σ H locs S hM => ?_)
  refine w_aload_n E hl 0 dX8_init_46 rfl ?_
  refine w_ldc (v := (1000000 : Int32)) E wd_76 dX8_init_47 ?_
  refine w_wI E S hM lk_8_36 rfl (Or.inl rfl) dX8_init_49 (fun σ H locs S hM => ?_)
  exact w_vret E S hM hr hk dX8_init_52
theorem dX8_isWithin_0 : decode cX8_isWithin 0 = .ok (.iload_n 0, 1) := by decide +kernel
theorem dX8_isWithin_1 : decode cX8_isWithin 1 = .ok (.iload_n 1, 1) := by decide +kernel
theorem dX8_isWithin_2 : decode cX8_isWithin 2 = .ok (.if_icmp .lt 12, 3) := by decide +kernel
theorem dX8_isWithin_5 : decode cX8_isWithin 5 = .ok (.iload_n 0, 1) := by decide +kernel
theorem dX8_isWithin_6 : decode cX8_isWithin 6 = .ok (.iload_n 2, 1) := by decide +kernel
theorem dX8_isWithin_7 : decode cX8_isWithin 7 = .ok (.if_icmp .gt 7, 3) := by decide +kernel
theorem dX8_isWithin_10 : decode cX8_isWithin 10 = .ok (.iconst 1, 1) := by decide +kernel
theorem dX8_isWithin_11 : decode cX8_isWithin 11 = .ok (.goto 4, 3) := by decide +kernel
theorem dX8_isWithin_14 : decode cX8_isWithin 14 = .ok (.iconst 0, 1) := by decide +kernel
theorem dX8_isWithin_15 : decode cX8_isWithin 15 = .ok (.ireturn, 1) := by decide +kernel
theorem mcX8_isWithin : x_mc yX8_isWithin cX8_isWithin 3 (some .boolean) 3 := ⟨wd_117, wd_1, by decide +kernel⟩
set_option maxHeartbeats 4000000 in
set_option maxRecDepth 100000 in
theorem kX8_isWithin (l : Launch) (base : Nat) (D : va_G) (dA : Nat → ClassId) (F : Nat) (x0 : Int32) (x1 : Int32) (x2 : Int32) : x_Met l base D dA yX8_isWithin cX8_isWithin 3 (some .boolean) 0 0 [.int x0, .int x1, .int x2] (mX8_isWithin F x0 x1 x2) (fun x => some (.int x)) := by
  refine x_Met.of [(0, .inl x0), (1, .inl x1), (2, .inl x2)] (by decide) (Nat.le_of_ble_eq_true rfl) rfl rfl ?_
  intro p e R s m args below meth c σ a τ ls hfr hlo E hr hk hn S hM hl
  have E : x_E p s m args c cX8_isWithin 3 "WireMoney" D dA := E
  unfold mX8_isWithin at hM
  refine w_iload_n E hl 0 dX8_isWithin_0 rfl ?_
  refine w_iload_n E hl 1 dX8_isWithin_1 rfl ?_
  refine lv_icmp_lt (tgt := 14) E.1 E.2.1 dX8_isWithin_2 (by decide) (fun c2 => ?_) (fun c2 => ?_)
  · replace hM := x_okT hM c2
    refine lv_iconst (v := (0 : Int32)) E.1 E.2.1 dX8_isWithin_14 (by decide) ?_
    exact w_zretc E S hM (by decide) hr hk dX8_isWithin_15
  · replace hM := x_okF hM c2
    refine w_iload_n E hl 0 dX8_isWithin_5 rfl ?_
    refine w_iload_n E hl 2 dX8_isWithin_6 rfl ?_
    refine lv_icmp_gt (tgt := 14) E.1 E.2.1 dX8_isWithin_7 (by decide) (fun c7 => ?_) (fun c7 => ?_)
    · replace hM := x_okT hM c7
      refine lv_iconst (v := (0 : Int32)) E.1 E.2.1 dX8_isWithin_14 (by decide) ?_
      exact w_zretc E S hM (by decide) hr hk dX8_isWithin_15
    · replace hM := x_okF hM c7
      refine lv_iconst (v := (1 : Int32)) E.1 E.2.1 dX8_isWithin_10 (by decide) ?_
      refine lv_goto (tgt := 15) E.1 E.2.1 dX8_isWithin_11 (by decide) ?_
      exact w_zretc E S hM (by decide) hr hk dX8_isWithin_15
theorem dX8_counter_0 : decode cX8_counter 0 = .ok (.iload_n 2, 1) := by decide +kernel
theorem dX8_counter_1 : decode cX8_counter 1 = .ok (.ifCond .lt 19, 3) := by decide +kernel
theorem dX8_counter_4 : decode cX8_counter 4 = .ok (.iload_n 2, 1) := by decide +kernel
theorem dX8_counter_5 : decode cX8_counter 5 = .ok (.iload_n 3, 1) := by decide +kernel
theorem dX8_counter_6 : decode cX8_counter 6 = .ok (.if_icmp .ge 14, 3) := by decide +kernel
theorem dX8_counter_9 : decode cX8_counter 9 = .ok (.iload_n 3, 1) := by decide +kernel
theorem dX8_counter_10 : decode cX8_counter 10 = .ok (.sipush 1440, 3) := by decide +kernel
theorem dX8_counter_13 : decode cX8_counter 13 = .ok (.if_icmp .gt 7, 3) := by decide +kernel
theorem dX8_counter_16 : decode cX8_counter 16 = .ok (.iconst 1, 1) := by decide +kernel
theorem dX8_counter_17 : decode cX8_counter 17 = .ok (.goto 4, 3) := by decide +kernel
theorem dX8_counter_20 : decode cX8_counter 20 = .ok (.iconst 0, 1) := by decide +kernel
theorem dX8_counter_21 : decode cX8_counter 21 = .ok (.istore 4, 2) := by decide +kernel
theorem dX8_counter_23 : decode cX8_counter 23 = .ok (.iload_n 1, 1) := by decide +kernel
theorem dX8_counter_24 : decode cX8_counter 24 = .ok (.iconst 0, 1) := by decide +kernel
theorem dX8_counter_25 : decode cX8_counter 25 = .ok (.ldc 35, 2) := by decide +kernel
theorem dX8_counter_27 : decode cX8_counter 27 = .ok (.invokestatic 40, 3) := by decide +kernel
theorem dX8_counter_30 : decode cX8_counter 30 = .ok (.ifCond .eq 8, 3) := by decide +kernel
theorem dX8_counter_33 : decode cX8_counter 33 = .ok (.iload 4, 2) := by decide +kernel
theorem dX8_counter_35 : decode cX8_counter 35 = .ok (.ifCond .ne 5, 3) := by decide +kernel
theorem dX8_counter_38 : decode cX8_counter 38 = .ok (.iconst (-1), 1) := by decide +kernel
theorem dX8_counter_39 : decode cX8_counter 39 = .ok (.ireturn, 1) := by decide +kernel
theorem dX8_counter_40 : decode cX8_counter 40 = .ok (.aload_n 0, 1) := by decide +kernel
theorem dX8_counter_41 : decode cX8_counter 41 = .ok (.getfield 12, 3) := by decide +kernel
theorem dX8_counter_44 : decode cX8_counter 44 = .ok (.iload_n 1, 1) := by decide +kernel
theorem dX8_counter_45 : decode cX8_counter 45 = .ok (.iload_n 2, 1) := by decide +kernel
theorem dX8_counter_46 : decode cX8_counter 46 = .ok (.iload_n 3, 1) := by decide +kernel
theorem dX8_counter_47 : decode cX8_counter 47 = .ok (.invokevirtual 44, 3) := by decide +kernel
theorem dX8_counter_50 : decode cX8_counter 50 = .ok (.ireturn, 1) := by decide +kernel
set_option maxHeartbeats 4000000 in
set_option maxRecDepth 100000 in
theorem bX8_counter_21 {p : Program} {l : Launch} {e : Env} {R : Room} {s : State} {m : MethodId} {args : Array Value} {below : List Frame} {meth : Method} {c : Code} {base : Nat} {D : va_G} {dA : Nat → ClassId} {σ0 : PH} {z : Int32 × PH} {F : Nat} (E : x_E p s m args c cX8_counter 5 "WireMoney" D dA) (hr : meth.sig.returnType = (some .int)) (hk : meth.locks = false) (hfr : R.frames = 3) (hlo : R.locals = 69) : ∀ (y0 : Option Nat) (y1 : Int32) (y2 : Int32) (y3 : Int32) (t0 : Int32) (σ : PH) (H : Heap) (locs : List Loc) (ls : Array Slot), x_S base D dA R s σ0 z.2 σ H locs → x_rn (mX8_counter_21 F y0 y1 y2 y3 t0) σ = some z → x_lv ls 5 [(0, .inr (.inl y0)), (1, .inl y1), (2, .inl y2), (3, .inl y3)] → W p l e R s m args below meth c H locs (x_N σ - x_N σ0) (x_U σ - x_U σ0) (x_end below args s base D dA (fun x => some (.int x)) σ0 z) (F0 m 21 ls [.int t0]) := by
  intro y0 y1 y2 y3 t0 σ H locs ls S hM hl
  unfold mX8_counter_21 at hM
  refine w_istore (lt' := [(4, .inl t0), (0, .inr (.inl y0)), (1, .inl y1), (2, .inl y2), (3, .inl y3)]) E hl dX8_counter_21 (by decide) rfl (fun ls hl => ?_)
  refine w_iload_n E hl 2 dX8_counter_23 rfl ?_
  refine lv_iconst (v := (0 : Int32)) E.1 E.2.1 dX8_counter_24 (by decide) ?_
  refine w_ldc (v := (1000000 : Int32)) E wd_76 dX8_counter_25 ?_
  refine w_cSi (rest := []) E S hl hM (kX8_isWithin l base D dA F y1 (0 : Int32) (1000000 : Int32)) mcX8_isWithin ⟨wd_115, wd_116⟩ hfr hlo (by decide) rfl (Nat.le_of_ble_eq_true rfl) dX8_counter_27 rfl (fun v27 σ H locs S hM => ?_)
  refine lv_if_eq (tgt := 38) E.1 E.2.1 dX8_counter_30 (by decide) (fun c30 => ?_) (fun c30 => ?_)
  · replace hM := x_okT hM c30
    refine lv_iconst (v := (-1 : Int32)) E.1 E.2.1 dX8_counter_38 (by decide) ?_
    exact w_iret E S hM hr hk dX8_counter_39
  · replace hM := x_okF hM c30
    refine w_iload E hl 0 dX8_counter_33 rfl ?_
    refine lv_if_ne (tgt := 40) E.1 E.2.1 dX8_counter_35 (by decide) (fun c35 => ?_) (fun c35 => ?_)
    · replace hM := x_okF hM c35
      refine w_aload_n E hl 1 dX8_counter_40 rfl ?_
      refine w_rR E S hM lk_8_12 rfl dX8_counter_41 (fun v41 hM => ?_)
      refine w_iload_n E hl 2 dX8_counter_44 rfl ?_
      refine w_iload_n E hl 3 dX8_counter_45 rfl ?_
      refine w_iload_n E hl 4 dX8_counter_46 rfl ?_
      refine w_cVi (rest := []) E S hl hM (kX3_addCounter l base D dA F v41 y1 y2 y3) mcX3_addCounter ⟨by decide, rfl, wd_118, wd_119, wd_120⟩ hfr hlo (by decide) rfl (Nat.le_of_ble_eq_true rfl) dX8_counter_47 rfl (fun v47 σ H locs S hM => ?_)
      exact w_iret E S hM hr hk dX8_counter_50
    · replace hM := x_okT hM c35
      refine lv_iconst (v := (-1 : Int32)) E.1 E.2.1 dX8_counter_38 (by decide) ?_
      exact w_iret E S hM hr hk dX8_counter_39
theorem mcX8_counter : x_mc yX8_counter cX8_counter 5 (some .int) 3 := ⟨wd_114, wd_1, by decide +kernel⟩
set_option maxHeartbeats 4000000 in
set_option maxRecDepth 100000 in
theorem kX8_counter (l : Launch) (base : Nat) (D : va_G) (dA : Nat → ClassId) (F : Nat) (r0 : Option Nat) (x1 : Int32) (x2 : Int32) (x3 : Int32) : x_Met l base D dA yX8_counter cX8_counter 5 (some .int) 3 69 [va_rf r0, .int x1, .int x2, .int x3] (mX8_counter F r0 x1 x2 x3) (fun x => some (.int x)) := by
  refine x_Met.of [(0, .inr (.inl r0)), (1, .inl x1), (2, .inl x2), (3, .inl x3)] (by decide) (Nat.le_of_ble_eq_true rfl) rfl rfl ?_
  intro p e R s m args below meth c σ a τ ls hfr hlo E hr hk hn S hM hl
  have E : x_E p s m args c cX8_counter 5 "WireMoney" D dA := E
  unfold mX8_counter at hM
  refine w_iload_n E hl 2 dX8_counter_0 rfl ?_
  refine lv_if_lt (tgt := 20) E.1 E.2.1 dX8_counter_1 (by decide) (fun c1 => ?_) (fun c1 => ?_)
  · replace hM := x_okT hM c1
    refine lv_iconst (v := (0 : Int32)) E.1 E.2.1 dX8_counter_20 (by decide) ?_
    exact bX8_counter_21 E hr hk hfr hlo r0 x1 x2 x3 (0 : Int32) _ _ _ _ S hM (x_lv_sub hl [0, 1, 2, 3] rfl)
  · replace hM := x_okF hM c1
    refine w_iload_n E hl 2 dX8_counter_4 rfl ?_
    refine w_iload_n E hl 3 dX8_counter_5 rfl ?_
    refine lv_icmp_ge (tgt := 20) E.1 E.2.1 dX8_counter_6 (by decide) (fun c6 => ?_) (fun c6 => ?_)
    · replace hM := x_okT hM c6
      refine lv_iconst (v := (0 : Int32)) E.1 E.2.1 dX8_counter_20 (by decide) ?_
      exact bX8_counter_21 E hr hk hfr hlo r0 x1 x2 x3 (0 : Int32) _ _ _ _ S hM (x_lv_sub hl [0, 1, 2, 3] rfl)
    · replace hM := x_okF hM c6
      refine w_iload_n E hl 3 dX8_counter_9 rfl ?_
      refine lv_sipush (v := (1440 : Int32)) E.1 E.2.1 dX8_counter_10 (by decide) ?_
      refine lv_icmp_gt (tgt := 20) E.1 E.2.1 dX8_counter_13 (by decide) (fun c13 => ?_) (fun c13 => ?_)
      · replace hM := x_okT hM c13
        refine lv_iconst (v := (0 : Int32)) E.1 E.2.1 dX8_counter_20 (by decide) ?_
        exact bX8_counter_21 E hr hk hfr hlo r0 x1 x2 x3 (0 : Int32) _ _ _ _ S hM (x_lv_sub hl [0, 1, 2, 3] rfl)
      · replace hM := x_okF hM c13
        refine lv_iconst (v := (1 : Int32)) E.1 E.2.1 dX8_counter_16 (by decide) ?_
        refine lv_goto (tgt := 21) E.1 E.2.1 dX8_counter_17 (by decide) ?_
        exact bX8_counter_21 E hr hk hfr hlo r0 x1 x2 x3 (1 : Int32) _ _ _ _ S hM (x_lv_sub hl [0, 1, 2, 3] rfl)
theorem dX8_wire_0 : decode cX8_wire 0 = .ok (.aload_n 0, 1) := by decide +kernel
theorem dX8_wire_1 : decode cX8_wire 1 = .ok (.getfield 12, 3) := by decide +kernel
theorem dX8_wire_4 : decode cX8_wire 4 = .ok (.iload_n 1, 1) := by decide +kernel
theorem dX8_wire_5 : decode cX8_wire 5 = .ok (.invokevirtual 48, 3) := by decide +kernel
theorem dX8_wire_8 : decode cX8_wire 8 = .ok (.astore 4, 2) := by decide +kernel
theorem dX8_wire_10 : decode cX8_wire 10 = .ok (.aload_n 0, 1) := by decide +kernel
theorem dX8_wire_11 : decode cX8_wire 11 = .ok (.getfield 12, 3) := by decide +kernel
theorem dX8_wire_14 : decode cX8_wire 14 = .ok (.iload_n 2, 1) := by decide +kernel
theorem dX8_wire_15 : decode cX8_wire 15 = .ok (.invokevirtual 48, 3) := by decide +kernel
theorem dX8_wire_18 : decode cX8_wire 18 = .ok (.astore 5, 2) := by decide +kernel
theorem dX8_wire_20 : decode cX8_wire 20 = .ok (.aload 4, 2) := by decide +kernel
theorem dX8_wire_22 : decode cX8_wire 22 = .ok (.ifnull 25, 3) := by decide +kernel
theorem dX8_wire_25 : decode cX8_wire 25 = .ok (.aload 5, 2) := by decide +kernel
theorem dX8_wire_27 : decode cX8_wire 27 = .ok (.ifnull 20, 3) := by decide +kernel
theorem dX8_wire_30 : decode cX8_wire 30 = .ok (.aload 4, 2) := by decide +kernel
theorem dX8_wire_32 : decode cX8_wire 32 = .ok (.aload 5, 2) := by decide +kernel
theorem dX8_wire_34 : decode cX8_wire 34 = .ok (.if_acmp .eq 13, 3) := by decide +kernel
theorem dX8_wire_37 : decode cX8_wire 37 = .ok (.iload_n 3, 1) := by decide +kernel
theorem dX8_wire_38 : decode cX8_wire 38 = .ok (.iconst 1, 1) := by decide +kernel
theorem dX8_wire_39 : decode cX8_wire 39 = .ok (.bipush 60, 2) := by decide +kernel
theorem dX8_wire_41 : decode cX8_wire 41 = .ok (.invokestatic 40, 3) := by decide +kernel
theorem dX8_wire_44 : decode cX8_wire 44 = .ok (.ifCond .ne 5, 3) := by decide +kernel
theorem dX8_wire_47 : decode cX8_wire 47 = .ok (.iconst (-1), 1) := by decide +kernel
theorem dX8_wire_48 : decode cX8_wire 48 = .ok (.ireturn, 1) := by decide +kernel
theorem dX8_wire_49 : decode cX8_wire 49 = .ok (.aload_n 0, 1) := by decide +kernel
theorem dX8_wire_50 : decode cX8_wire 50 = .ok (.getfield 12, 3) := by decide +kernel
theorem dX8_wire_53 : decode cX8_wire 53 = .ok (.aload 4, 2) := by decide +kernel
theorem dX8_wire_55 : decode cX8_wire 55 = .ok (.aload 5, 2) := by decide +kernel
theorem dX8_wire_57 : decode cX8_wire 57 = .ok (.iload_n 3, 1) := by decide +kernel
theorem dX8_wire_58 : decode cX8_wire 58 = .ok (.invokevirtual 52, 3) := by decide +kernel
theorem dX8_wire_61 : decode cX8_wire 61 = .ok (.ireturn, 1) := by decide +kernel
theorem mcX8_wire : x_mc yX8_wire cX8_wire 6 (some .int) 3 := ⟨wd_152, wd_1, by decide +kernel⟩
set_option maxHeartbeats 4000000 in
set_option maxRecDepth 100000 in
theorem kX8_wire (l : Launch) (base : Nat) (D : va_G) (dA : Nat → ClassId) (F : Nat) (r0 : Option Nat) (x1 : Int32) (x2 : Int32) (x3 : Int32) : x_Met l base D dA yX8_wire cX8_wire 6 (some .int) 5 116 [va_rf r0, .int x1, .int x2, .int x3] (mX8_wire F r0 x1 x2 x3) (fun x => some (.int x)) := by
  refine x_Met.of [(0, .inr (.inl r0)), (1, .inl x1), (2, .inl x2), (3, .inl x3)] (by decide) (Nat.le_of_ble_eq_true rfl) rfl rfl ?_
  intro p e R s m args below meth c σ a τ ls hfr hlo E hr hk hn S hM hl
  have E : x_E p s m args c cX8_wire 6 "WireMoney" D dA := E
  unfold mX8_wire at hM
  refine w_aload_n E hl 0 dX8_wire_0 rfl ?_
  refine w_rR E S hM lk_8_12 rfl dX8_wire_1 (fun v1 hM => ?_)
  refine w_iload_n E hl 1 dX8_wire_4 rfl ?_
  refine w_cVq (rest := []) E S hl hM (kX3_findCounter l base D dA F v1 x1) mcX3_findCounter ⟨by decide, rfl, wd_153, wd_154, wd_155⟩ hfr hlo (by decide) rfl (Nat.le_of_ble_eq_true rfl) dX8_wire_5 rfl (fun v5 σ H locs S hM => ?_)
  refine w_astore (lt' := [(4, .inr (.inl v5)), (0, .inr (.inl r0)), (1, .inl x1), (2, .inl x2), (3, .inl x3)]) E hl dX8_wire_8 (by decide) rfl (fun ls hl => ?_)
  refine w_aload_n E hl 1 dX8_wire_10 rfl ?_
  refine w_rR E S hM lk_8_12 rfl dX8_wire_11 (fun v11 hM => ?_)
  refine w_iload_n E hl 3 dX8_wire_14 rfl ?_
  refine w_cVq (rest := []) E S hl hM (kX3_findCounter l base D dA F v11 x2) mcX3_findCounter ⟨by decide, rfl, wd_153, wd_154, wd_155⟩ hfr hlo (by decide) rfl (Nat.le_of_ble_eq_true rfl) dX8_wire_15 rfl (fun v15 σ H locs S hM => ?_)
  refine w_astore (lt' := [(5, .inr (.inl v15)), (4, .inr (.inl v5)), (0, .inr (.inl r0)), (1, .inl x1), (2, .inl x2), (3, .inl x3)]) E hl dX8_wire_18 (by decide) rfl (fun ls hl => ?_)
  refine w_aload E hl 1 dX8_wire_20 rfl ?_
  refine w_ifnull (tgt := 47) E hM dX8_wire_22 (by decide) (fun c22 hM => ?_) (fun a22 c22 hM => ?_)
  · skip
    refine lv_iconst (v := (-1 : Int32)) E.1 E.2.1 dX8_wire_47 (by decide) ?_
    exact w_iret E S hM hr hk dX8_wire_48
  · skip
    refine w_aload E hl 0 dX8_wire_25 rfl ?_
    refine w_ifnull (tgt := 47) E hM dX8_wire_27 (by decide) (fun c27 hM => ?_) (fun a27 c27 hM => ?_)
    · skip
      refine lv_iconst (v := (-1 : Int32)) E.1 E.2.1 dX8_wire_47 (by decide) ?_
      exact w_iret E S hM hr hk dX8_wire_48
    · skip
      refine w_aload E hl 1 dX8_wire_30 rfl ?_
      refine w_aload E hl 0 dX8_wire_32 rfl ?_
      refine lv_acmp_eq (tgt := 47) E.1 E.2.1 dX8_wire_34 (by decide) (fun c34 => ?_) (fun c34 => ?_)
      · replace hM := x_okT hM c34
        refine lv_iconst (v := (-1 : Int32)) E.1 E.2.1 dX8_wire_47 (by decide) ?_
        exact w_iret E S hM hr hk dX8_wire_48
      · replace hM := x_okF hM c34
        refine w_iload_n E hl 5 dX8_wire_37 rfl ?_
        refine lv_iconst (v := (1 : Int32)) E.1 E.2.1 dX8_wire_38 (by decide) ?_
        refine lv_bipush (v := (60 : Int32)) E.1 E.2.1 dX8_wire_39 (by decide) ?_
        refine w_cSi (rest := []) E S hl hM (kX8_isWithin l base D dA F x3 (1 : Int32) (60 : Int32)) mcX8_isWithin ⟨wd_115, wd_116⟩ hfr hlo (by decide) rfl (Nat.le_of_ble_eq_true rfl) dX8_wire_41 rfl (fun v41 σ H locs S hM => ?_)
        refine lv_if_ne (tgt := 49) E.1 E.2.1 dX8_wire_44 (by decide) (fun c44 => ?_) (fun c44 => ?_)
        · replace hM := x_okF hM c44
          refine w_aload_n E hl 2 dX8_wire_49 rfl ?_
          refine w_rR E S hM lk_8_12 rfl dX8_wire_50 (fun v50 hM => ?_)
          refine w_aload E hl 1 dX8_wire_53 rfl ?_
          refine w_aload E hl 0 dX8_wire_55 rfl ?_
          refine w_iload_n E hl 5 dX8_wire_57 rfl ?_
          refine w_cVi (rest := []) E S hl hM (kX3_addWire l base D dA F v50 v5 v15 x3) mcX3_addWire ⟨by decide, rfl, wd_157, wd_158, wd_159⟩ hfr hlo (by decide) rfl (Nat.le_of_ble_eq_true rfl) dX8_wire_58 rfl (fun v58 σ H locs S hM => ?_)
          exact w_iret E S hM hr hk dX8_wire_61
        · replace hM := x_okT hM c44
          refine lv_iconst (v := (-1 : Int32)) E.1 E.2.1 dX8_wire_47 (by decide) ?_
          exact w_iret E S hM hr hk dX8_wire_48
theorem dX8_down_0 : decode cX8_down 0 = .ok (.aload_n 0, 1) := by decide +kernel
theorem dX8_down_1 : decode cX8_down 1 = .ok (.getfield 12, 3) := by decide +kernel
theorem dX8_down_4 : decode cX8_down 4 = .ok (.iload_n 1, 1) := by decide +kernel
theorem dX8_down_5 : decode cX8_down 5 = .ok (.invokevirtual 56, 3) := by decide +kernel
theorem dX8_down_8 : decode cX8_down 8 = .ok (.astore 4, 2) := by decide +kernel
theorem dX8_down_10 : decode cX8_down 10 = .ok (.aload 4, 2) := by decide +kernel
theorem dX8_down_12 : decode cX8_down 12 = .ok (.ifnull 16, 3) := by decide +kernel
theorem dX8_down_15 : decode cX8_down 15 = .ok (.iload_n 2, 1) := by decide +kernel
theorem dX8_down_16 : decode cX8_down 16 = .ok (.aload_n 0, 1) := by decide +kernel
theorem dX8_down_17 : decode cX8_down 17 = .ok (.getfield 60, 3) := by decide +kernel
theorem dX8_down_20 : decode cX8_down 20 = .ok (.if_icmp .lt 8, 3) := by decide +kernel
theorem dX8_down_23 : decode cX8_down 23 = .ok (.iload_n 3, 1) := by decide +kernel
theorem dX8_down_24 : decode cX8_down 24 = .ok (.iload_n 2, 1) := by decide +kernel
theorem dX8_down_25 : decode cX8_down 25 = .ok (.if_icmp .gt 5, 3) := by decide +kernel
theorem dX8_down_28 : decode cX8_down 28 = .ok (.iconst 0, 1) := by decide +kernel
theorem dX8_down_29 : decode cX8_down 29 = .ok (.ireturn, 1) := by decide +kernel
theorem dX8_down_30 : decode cX8_down 30 = .ok (.aload 4, 2) := by decide +kernel
theorem dX8_down_32 : decode cX8_down 32 = .ok (.iload_n 2, 1) := by decide +kernel
theorem dX8_down_33 : decode cX8_down 33 = .ok (.putfield 63, 3) := by decide +kernel
theorem dX8_down_36 : decode cX8_down 36 = .ok (.aload 4, 2) := by decide +kernel
theorem dX8_down_38 : decode cX8_down 38 = .ok (.iload_n 3, 1) := by decide +kernel
theorem dX8_down_39 : decode cX8_down 39 = .ok (.putfield 68, 3) := by decide +kernel
theorem dX8_down_42 : decode cX8_down 42 = .ok (.iconst 1, 1) := by decide +kernel
theorem dX8_down_43 : decode cX8_down 43 = .ok (.ireturn, 1) := by decide +kernel
theorem mcX8_down : x_mc yX8_down cX8_down 5 (some .boolean) 3 := ⟨wd_245, wd_1, by decide +kernel⟩
set_option maxHeartbeats 4000000 in
set_option maxRecDepth 100000 in
theorem kX8_down (l : Launch) (base : Nat) (D : va_G) (dA : Nat → ClassId) (F : Nat) (r0 : Option Nat) (x1 : Int32) (x2 : Int32) (x3 : Int32) : x_Met l base D dA yX8_down cX8_down 5 (some .boolean) 1 21 [va_rf r0, .int x1, .int x2, .int x3] (mX8_down F r0 x1 x2 x3) (fun x => some (.int x)) := by
  refine x_Met.of [(0, .inr (.inl r0)), (1, .inl x1), (2, .inl x2), (3, .inl x3)] (by decide) (Nat.le_of_ble_eq_true rfl) rfl rfl ?_
  intro p e R s m args below meth c σ a τ ls hfr hlo E hr hk hn S hM hl
  have E : x_E p s m args c cX8_down 5 "WireMoney" D dA := E
  unfold mX8_down at hM
  refine w_aload_n E hl 0 dX8_down_0 rfl ?_
  refine w_rR E S hM lk_8_12 rfl dX8_down_1 (fun v1 hM => ?_)
  refine w_iload_n E hl 1 dX8_down_4 rfl ?_
  refine w_cVq (rest := []) E S hl hM (kX3_findWire l base D dA F v1 x1) mcX3_findWire ⟨by decide, rfl, wd_246, wd_247, wd_248⟩ hfr hlo (by decide) rfl (Nat.le_of_ble_eq_true rfl) dX8_down_5 rfl (fun v5 σ H locs S hM => ?_)
  refine w_astore (lt' := [(4, .inr (.inl v5)), (0, .inr (.inl r0)), (1, .inl x1), (2, .inl x2), (3, .inl x3)]) E hl dX8_down_8 (by decide) rfl (fun ls hl => ?_)
  refine w_aload E hl 0 dX8_down_10 rfl ?_
  refine w_ifnull (tgt := 28) E hM dX8_down_12 (by decide) (fun c12 hM => ?_) (fun a12 c12 hM => ?_)
  · skip
    refine lv_iconst (v := (0 : Int32)) E.1 E.2.1 dX8_down_28 (by decide) ?_
    exact w_zretc E S hM (by decide) hr hk dX8_down_29
  · skip
    refine w_iload_n E hl 3 dX8_down_15 rfl ?_
    refine w_aload_n E hl 1 dX8_down_16 rfl ?_
    refine w_rI E S hM lk_8_60 rfl dX8_down_17 (fun v17 hM => ?_)
    refine lv_icmp_lt (tgt := 28) E.1 E.2.1 dX8_down_20 (by decide) (fun c20 => ?_) (fun c20 => ?_)
    · replace hM := x_okT hM c20
      refine lv_iconst (v := (0 : Int32)) E.1 E.2.1 dX8_down_28 (by decide) ?_
      exact w_zretc E S hM (by decide) hr hk dX8_down_29
    · replace hM := x_okF hM c20
      refine w_iload_n E hl 4 dX8_down_23 rfl ?_
      refine w_iload_n E hl 3 dX8_down_24 rfl ?_
      refine lv_icmp_gt (tgt := 30) E.1 E.2.1 dX8_down_25 (by decide) (fun c25 => ?_) (fun c25 => ?_)
      · replace hM := x_okT hM c25
        refine w_aload E hl 0 dX8_down_30 rfl ?_
        refine w_iload_n E hl 3 dX8_down_32 rfl ?_
        refine w_wI E S hM lk_8_63 rfl (Or.inl rfl) dX8_down_33 (fun σ H locs S hM => ?_)
        refine w_aload E hl 0 dX8_down_36 rfl ?_
        refine w_iload_n E hl 4 dX8_down_38 rfl ?_
        refine w_wI E S hM lk_8_68 rfl (Or.inl rfl) dX8_down_39 (fun σ H locs S hM => ?_)
        refine lv_iconst (v := (1 : Int32)) E.1 E.2.1 dX8_down_42 (by decide) ?_
        exact w_zretc E S hM (by decide) hr hk dX8_down_43
      · replace hM := x_okF hM c25
        refine lv_iconst (v := (0 : Int32)) E.1 E.2.1 dX8_down_28 (by decide) ?_
        exact w_zretc E S hM (by decide) hr hk dX8_down_29
theorem dX8_least_0 : decode cX8_least 0 = .ok (.aload_n 0, 1) := by decide +kernel
theorem dX8_least_1 : decode cX8_least 1 = .ok (.getfield 12, 3) := by decide +kernel
theorem dX8_least_4 : decode cX8_least 4 = .ok (.iload_n 1, 1) := by decide +kernel
theorem dX8_least_5 : decode cX8_least 5 = .ok (.invokevirtual 48, 3) := by decide +kernel
theorem dX8_least_8 : decode cX8_least 8 = .ok (.astore_n 3, 1) := by decide +kernel
theorem dX8_least_9 : decode cX8_least 9 = .ok (.aload_n 0, 1) := by decide +kernel
theorem dX8_least_10 : decode cX8_least 10 = .ok (.getfield 12, 3) := by decide +kernel
theorem dX8_least_13 : decode cX8_least 13 = .ok (.iload_n 2, 1) := by decide +kernel
theorem dX8_least_14 : decode cX8_least 14 = .ok (.invokevirtual 48, 3) := by decide +kernel
theorem dX8_least_17 : decode cX8_least 17 = .ok (.astore 4, 2) := by decide +kernel
theorem dX8_least_19 : decode cX8_least 19 = .ok (.aload_n 3, 1) := by decide +kernel
theorem dX8_least_20 : decode cX8_least 20 = .ok (.ifnull 21, 3) := by decide +kernel
theorem dX8_least_23 : decode cX8_least 23 = .ok (.aload 4, 2) := by decide +kernel
theorem dX8_least_25 : decode cX8_least 25 = .ok (.ifnull 16, 3) := by decide +kernel
theorem dX8_least_28 : decode cX8_least 28 = .ok (.aload_n 0, 1) := by decide +kernel
theorem dX8_least_29 : decode cX8_least 29 = .ok (.getfield 12, 3) := by decide +kernel
theorem dX8_least_32 : decode cX8_least 32 = .ok (.aload_n 3, 1) := by decide +kernel
theorem dX8_least_33 : decode cX8_least 33 = .ok (.aload 4, 2) := by decide +kernel
theorem dX8_least_35 : decode cX8_least 35 = .ok (.invokevirtual 71, 3) := by decide +kernel
theorem dX8_least_38 : decode cX8_least 38 = .ok (.ifCond .ne 5, 3) := by decide +kernel
theorem dX8_least_41 : decode cX8_least 41 = .ok (.iconst (-1), 1) := by decide +kernel
theorem dX8_least_42 : decode cX8_least 42 = .ok (.ireturn, 1) := by decide +kernel
theorem dX8_least_43 : decode cX8_least 43 = .ok (.aload_n 0, 1) := by decide +kernel
theorem dX8_least_44 : decode cX8_least 44 = .ok (.getfield 12, 3) := by decide +kernel
theorem dX8_least_47 : decode cX8_least 47 = .ok (.aload_n 3, 1) := by decide +kernel
theorem dX8_least_48 : decode cX8_least 48 = .ok (.aload 4, 2) := by decide +kernel
theorem dX8_least_50 : decode cX8_least 50 = .ok (.invokevirtual 75, 3) := by decide +kernel
theorem dX8_least_53 : decode cX8_least 53 = .ok (.ireturn, 1) := by decide +kernel
theorem mcX8_least : x_mc yX8_least cX8_least 5 (some .int) 2 := ⟨wd_253, wd_1, by decide +kernel⟩
set_option maxHeartbeats 4000000 in
set_option maxRecDepth 100000 in
theorem kX8_least (l : Launch) (base : Nat) (D : va_G) (dA : Nat → ClassId) (F : Nat) (r0 : Option Nat) (x1 : Int32) (x2 : Int32) : x_Met l base D dA yX8_least cX8_least 5 (some .int) 4 88 [va_rf r0, .int x1, .int x2] (mX8_least F r0 x1 x2) (fun x => some (.int x)) := by
  refine x_Met.of [(0, .inr (.inl r0)), (1, .inl x1), (2, .inl x2)] (by decide) (Nat.le_of_ble_eq_true rfl) rfl rfl ?_
  intro p e R s m args below meth c σ a τ ls hfr hlo E hr hk hn S hM hl
  have E : x_E p s m args c cX8_least 5 "WireMoney" D dA := E
  unfold mX8_least at hM
  refine w_aload_n E hl 0 dX8_least_0 rfl ?_
  refine w_rR E S hM lk_8_12 rfl dX8_least_1 (fun v1 hM => ?_)
  refine w_iload_n E hl 1 dX8_least_4 rfl ?_
  refine w_cVq (rest := []) E S hl hM (kX3_findCounter l base D dA F v1 x1) mcX3_findCounter ⟨by decide, rfl, wd_153, wd_154, wd_155⟩ hfr hlo (by decide) rfl (Nat.le_of_ble_eq_true rfl) dX8_least_5 rfl (fun v5 σ H locs S hM => ?_)
  refine w_astore_n (lt' := [(3, .inr (.inl v5)), (0, .inr (.inl r0)), (1, .inl x1), (2, .inl x2)]) E hl dX8_least_8 (by decide) rfl (fun ls hl => ?_)
  refine w_aload_n E hl 1 dX8_least_9 rfl ?_
  refine w_rR E S hM lk_8_12 rfl dX8_least_10 (fun v10 hM => ?_)
  refine w_iload_n E hl 3 dX8_least_13 rfl ?_
  refine w_cVq (rest := []) E S hl hM (kX3_findCounter l base D dA F v10 x2) mcX3_findCounter ⟨by decide, rfl, wd_153, wd_154, wd_155⟩ hfr hlo (by decide) rfl (Nat.le_of_ble_eq_true rfl) dX8_least_14 rfl (fun v14 σ H locs S hM => ?_)
  refine w_astore (lt' := [(4, .inr (.inl v14)), (3, .inr (.inl v5)), (0, .inr (.inl r0)), (1, .inl x1), (2, .inl x2)]) E hl dX8_least_17 (by decide) rfl (fun ls hl => ?_)
  refine w_aload_n E hl 1 dX8_least_19 rfl ?_
  refine w_ifnull (tgt := 41) E hM dX8_least_20 (by decide) (fun c20 hM => ?_) (fun a20 c20 hM => ?_)
  · skip
    refine lv_iconst (v := (-1 : Int32)) E.1 E.2.1 dX8_least_41 (by decide) ?_
    exact w_iret E S hM hr hk dX8_least_42
  · skip
    refine w_aload E hl 0 dX8_least_23 rfl ?_
    refine w_ifnull (tgt := 41) E hM dX8_least_25 (by decide) (fun c25 hM => ?_) (fun a25 c25 hM => ?_)
    · skip
      refine lv_iconst (v := (-1 : Int32)) E.1 E.2.1 dX8_least_41 (by decide) ?_
      exact w_iret E S hM hr hk dX8_least_42
    · skip
      refine w_aload_n E hl 2 dX8_least_28 rfl ?_
      refine w_rR E S hM lk_8_12 rfl dX8_least_29 (fun v29 hM => ?_)
      refine w_aload_n E hl 1 dX8_least_32 rfl ?_
      refine w_aload E hl 0 dX8_least_33 rfl ?_
      refine w_cVi (rest := []) E S hl hM (kX3_hasWay l base D dA F v29 v5 v14) mcX3_hasWay ⟨by decide, rfl, wd_254, wd_255, wd_256⟩ hfr hlo (by decide) rfl (Nat.le_of_ble_eq_true rfl) dX8_least_35 rfl (fun v35 σ H locs S hM => ?_)
      refine lv_if_ne (tgt := 43) E.1 E.2.1 dX8_least_38 (by decide) (fun c38 => ?_) (fun c38 => ?_)
      · replace hM := x_okF hM c38
        refine w_aload_n E hl 2 dX8_least_43 rfl ?_
        refine w_rR E S hM lk_8_12 rfl dX8_least_44 (fun v44 hM => ?_)
        refine w_aload_n E hl 1 dX8_least_47 rfl ?_
        refine w_aload E hl 0 dX8_least_48 rfl ?_
        refine w_cVi (rest := []) E S hl hM (kX3_minutesBetween l base D dA F v44 v5 v14) mcX3_minutesBetween ⟨by decide, rfl, wd_262, wd_259, wd_260⟩ hfr hlo (by decide) rfl (Nat.le_of_ble_eq_true rfl) dX8_least_50 rfl (fun v50 σ H locs S hM => ?_)
        exact w_iret E S hM hr hk dX8_least_53
      · replace hM := x_okT hM c38
        refine lv_iconst (v := (-1 : Int32)) E.1 E.2.1 dX8_least_41 (by decide) ?_
        exact w_iret E S hM hr hk dX8_least_42
theorem dX8_band_0 : decode cX8_band 0 = .ok (.iload_n 1, 1) := by decide +kernel
theorem dX8_band_1 : decode cX8_band 1 = .ok (.iconst 1, 1) := by decide +kernel
theorem dX8_band_2 : decode cX8_band 2 = .ok (.ldc 79, 2) := by decide +kernel
theorem dX8_band_4 : decode cX8_band 4 = .ok (.invokestatic 40, 3) := by decide +kernel
theorem dX8_band_7 : decode cX8_band 7 = .ok (.ifCond .eq 30, 3) := by decide +kernel
theorem dX8_band_10 : decode cX8_band 10 = .ok (.iload_n 2, 1) := by decide +kernel
theorem dX8_band_11 : decode cX8_band 11 = .ok (.iconst 0, 1) := by decide +kernel
theorem dX8_band_12 : decode cX8_band 12 = .ok (.sipush 1000, 3) := by decide +kernel
theorem dX8_band_15 : decode cX8_band 15 = .ok (.invokestatic 40, 3) := by decide +kernel
theorem dX8_band_18 : decode cX8_band 18 = .ok (.ifCond .eq 19, 3) := by decide +kernel
theorem dX8_band_21 : decode cX8_band 21 = .ok (.aload_n 0, 1) := by decide +kernel
theorem dX8_band_22 : decode cX8_band 22 = .ok (.getfield 19, 3) := by decide +kernel
theorem dX8_band_25 : decode cX8_band 25 = .ok (.iload_n 1, 1) := by decide +kernel
theorem dX8_band_26 : decode cX8_band 26 = .ok (.iload_n 2, 1) := by decide +kernel
theorem dX8_band_27 : decode cX8_band 27 = .ok (.invokevirtual 80, 3) := by decide +kernel
theorem dX8_band_30 : decode cX8_band 30 = .ok (.ifCond .eq 7, 3) := by decide +kernel
theorem dX8_band_33 : decode cX8_band 33 = .ok (.iconst 1, 1) := by decide +kernel
theorem dX8_band_34 : decode cX8_band 34 = .ok (.goto 4, 3) := by decide +kernel
theorem dX8_band_37 : decode cX8_band 37 = .ok (.iconst 0, 1) := by decide +kernel
theorem dX8_band_38 : decode cX8_band 38 = .ok (.ireturn, 1) := by decide +kernel
theorem mcX8_band : x_mc yX8_band cX8_band 3 (some .boolean) 2 := ⟨wd_266, wd_1, by decide +kernel⟩
set_option maxHeartbeats 4000000 in
set_option maxRecDepth 100000 in
theorem kX8_band (l : Launch) (base : Nat) (D : va_G) (dA : Nat → ClassId) (F : Nat) (r0 : Option Nat) (x1 : Int32) (x2 : Int32) : x_Met l base D dA yX8_band cX8_band 3 (some .boolean) 2 42 [va_rf r0, .int x1, .int x2] (mX8_band F r0 x1 x2) (fun x => some (.int x)) := by
  refine x_Met.of [(0, .inr (.inl r0)), (1, .inl x1), (2, .inl x2)] (by decide) (Nat.le_of_ble_eq_true rfl) rfl rfl ?_
  intro p e R s m args below meth c σ a τ ls hfr hlo E hr hk hn S hM hl
  have E : x_E p s m args c cX8_band 3 "WireMoney" D dA := E
  unfold mX8_band at hM
  refine w_iload_n E hl 1 dX8_band_0 rfl ?_
  refine lv_iconst (v := (1 : Int32)) E.1 E.2.1 dX8_band_1 (by decide) ?_
  refine w_ldc (v := (99999 : Int32)) E wd_267 dX8_band_2 ?_
  refine w_cSi (rest := []) E S hl hM (kX8_isWithin l base D dA F x1 (1 : Int32) (99999 : Int32)) mcX8_isWithin ⟨wd_115, wd_116⟩ hfr hlo (by decide) rfl (Nat.le_of_ble_eq_true rfl) dX8_band_4 rfl (fun v4 σ H locs S hM => ?_)
  refine lv_if_eq (tgt := 37) E.1 E.2.1 dX8_band_7 (by decide) (fun c7 => ?_) (fun c7 => ?_)
  · replace hM := x_okT hM c7
    refine lv_iconst (v := (0 : Int32)) E.1 E.2.1 dX8_band_37 (by decide) ?_
    exact w_zretc E S hM (by decide) hr hk dX8_band_38
  · replace hM := x_okF hM c7
    refine w_iload_n E hl 2 dX8_band_10 rfl ?_
    refine lv_iconst (v := (0 : Int32)) E.1 E.2.1 dX8_band_11 (by decide) ?_
    refine lv_sipush (v := (1000 : Int32)) E.1 E.2.1 dX8_band_12 (by decide) ?_
    refine w_cSi (rest := []) E S hl hM (kX8_isWithin l base D dA F x2 (0 : Int32) (1000 : Int32)) mcX8_isWithin ⟨wd_115, wd_116⟩ hfr hlo (by decide) rfl (Nat.le_of_ble_eq_true rfl) dX8_band_15 rfl (fun v15 σ H locs S hM => ?_)
    refine lv_if_eq (tgt := 37) E.1 E.2.1 dX8_band_18 (by decide) (fun c18 => ?_) (fun c18 => ?_)
    · replace hM := x_okT hM c18
      refine lv_iconst (v := (0 : Int32)) E.1 E.2.1 dX8_band_37 (by decide) ?_
      exact w_zretc E S hM (by decide) hr hk dX8_band_38
    · replace hM := x_okF hM c18
      refine w_aload_n E hl 0 dX8_band_21 rfl ?_
      refine w_rR E S hM lk_8_19 rfl dX8_band_22 (fun v22 hM => ?_)
      refine w_iload_n E hl 1 dX8_band_25 rfl ?_
      refine w_iload_n E hl 2 dX8_band_26 rfl ?_
      refine w_cVi (rest := []) E S hl hM (kX0_add l base D dA F v22 x1 x2) mcX0_add ⟨by decide, rfl, wd_268, wd_269, wd_270⟩ hfr hlo (by decide) rfl (Nat.le_of_ble_eq_true rfl) dX8_band_27 rfl (fun v27 σ H locs S hM => ?_)
      refine lv_if_eq (tgt := 37) E.1 E.2.1 dX8_band_30 (by decide) (fun c30 => ?_) (fun c30 => ?_)
      · replace hM := x_okT hM c30
        refine lv_iconst (v := (0 : Int32)) E.1 E.2.1 dX8_band_37 (by decide) ?_
        exact w_zretc E S hM (by decide) hr hk dX8_band_38
      · replace hM := x_okF hM c30
        refine lv_iconst (v := (1 : Int32)) E.1 E.2.1 dX8_band_33 (by decide) ?_
        refine lv_goto (tgt := 38) E.1 E.2.1 dX8_band_34 (by decide) ?_
        exact w_zretc E S hM (by decide) hr hk dX8_band_38
theorem dX8_fee_0 : decode cX8_fee 0 = .ok (.iload_n 1, 1) := by decide +kernel
theorem dX8_fee_1 : decode cX8_fee 1 = .ok (.iconst 1, 1) := by decide +kernel
theorem dX8_fee_2 : decode cX8_fee 2 = .ok (.ldc 79, 2) := by decide +kernel
theorem dX8_fee_4 : decode cX8_fee 4 = .ok (.invokestatic 40, 3) := by decide +kernel
theorem dX8_fee_7 : decode cX8_fee 7 = .ok (.ifCond .eq 14, 3) := by decide +kernel
theorem dX8_fee_10 : decode cX8_fee 10 = .ok (.aload_n 0, 1) := by decide +kernel
theorem dX8_fee_11 : decode cX8_fee 11 = .ok (.getfield 19, 3) := by decide +kernel
theorem dX8_fee_14 : decode cX8_fee 14 = .ok (.iload_n 1, 1) := by decide +kernel
theorem dX8_fee_15 : decode cX8_fee 15 = .ok (.invokevirtual 84, 3) := by decide +kernel
theorem dX8_fee_18 : decode cX8_fee 18 = .ok (.goto 4, 3) := by decide +kernel
theorem dX8_fee_21 : decode cX8_fee 21 = .ok (.iconst (-1), 1) := by decide +kernel
theorem dX8_fee_22 : decode cX8_fee 22 = .ok (.ireturn, 1) := by decide +kernel
theorem mcX8_fee : x_mc yX8_fee cX8_fee 2 (some .int) 1 := ⟨wd_279, wd_1, by decide +kernel⟩
set_option maxHeartbeats 4000000 in
set_option maxRecDepth 100000 in
theorem kX8_fee (l : Launch) (base : Nat) (D : va_G) (dA : Nat → ClassId) (F : Nat) (r0 : Option Nat) (x1 : Int32) : x_Met l base D dA yX8_fee cX8_fee 2 (some .int) 2 43 [va_rf r0, .int x1] (mX8_fee F r0 x1) (fun x => some (.int x)) := by
  refine x_Met.of [(0, .inr (.inl r0)), (1, .inl x1)] (by decide) (Nat.le_of_ble_eq_true rfl) rfl rfl ?_
  intro p e R s m args below meth c σ a τ ls hfr hlo E hr hk hn S hM hl
  have E : x_E p s m args c cX8_fee 2 "WireMoney" D dA := E
  unfold mX8_fee at hM
  refine w_iload_n E hl 1 dX8_fee_0 rfl ?_
  refine lv_iconst (v := (1 : Int32)) E.1 E.2.1 dX8_fee_1 (by decide) ?_
  refine w_ldc (v := (99999 : Int32)) E wd_267 dX8_fee_2 ?_
  refine w_cSi (rest := []) E S hl hM (kX8_isWithin l base D dA F x1 (1 : Int32) (99999 : Int32)) mcX8_isWithin ⟨wd_115, wd_116⟩ hfr hlo (by decide) rfl (Nat.le_of_ble_eq_true rfl) dX8_fee_4 rfl (fun v4 σ H locs S hM => ?_)
  refine lv_if_eq (tgt := 21) E.1 E.2.1 dX8_fee_7 (by decide) (fun c7 => ?_) (fun c7 => ?_)
  · replace hM := x_okT hM c7
    refine lv_iconst (v := (-1 : Int32)) E.1 E.2.1 dX8_fee_21 (by decide) ?_
    exact w_iret E S hM hr hk dX8_fee_22
  · replace hM := x_okF hM c7
    refine w_aload_n E hl 0 dX8_fee_10 rfl ?_
    refine w_rR E S hM lk_8_19 rfl dX8_fee_11 (fun v11 hM => ?_)
    refine w_iload_n E hl 1 dX8_fee_14 rfl ?_
    refine w_cVi (rest := []) E S hl hM (kX0_feeOf l base D dA F v11 x1) mcX0_feeOf ⟨by decide, rfl, wd_280, wd_281, wd_282⟩ hfr hlo (by decide) rfl (Nat.le_of_ble_eq_true rfl) dX8_fee_15 rfl (fun v15 σ H locs S hM => ?_)
    refine lv_goto (tgt := 22) E.1 E.2.1 dX8_fee_18 (by decide) ?_
    exact w_iret E S hM hr hk dX8_fee_22
theorem dX8_canWrite_0 : decode cX8_canWrite 0 = .ok (.aload_n 0, 1) := by decide +kernel
theorem dX8_canWrite_1 : decode cX8_canWrite 1 = .ok (.getfield 135, 3) := by decide +kernel
theorem dX8_canWrite_4 : decode cX8_canWrite 4 = .ok (.aload_n 0, 1) := by decide +kernel
theorem dX8_canWrite_5 : decode cX8_canWrite 5 = .ok (.getfield 31, 3) := by decide +kernel
theorem dX8_canWrite_8 : decode cX8_canWrite 8 = .ok (.arraylength, 1) := by decide +kernel
theorem dX8_canWrite_9 : decode cX8_canWrite 9 = .ok (.if_icmp .ge 7, 3) := by decide +kernel
theorem dX8_canWrite_12 : decode cX8_canWrite 12 = .ok (.iconst 1, 1) := by decide +kernel
theorem dX8_canWrite_13 : decode cX8_canWrite 13 = .ok (.goto 4, 3) := by decide +kernel
theorem dX8_canWrite_16 : decode cX8_canWrite 16 = .ok (.iconst 0, 1) := by decide +kernel
theorem dX8_canWrite_17 : decode cX8_canWrite 17 = .ok (.ireturn, 1) := by decide +kernel
theorem mcX8_canWrite : x_mc yX8_canWrite cX8_canWrite 1 (some .boolean) 0 := ⟨wd_298, wd_1, by decide +kernel⟩
set_option maxHeartbeats 4000000 in
set_option maxRecDepth 100000 in
theorem kX8_canWrite (l : Launch) (base : Nat) (D : va_G) (dA : Nat → ClassId) (F : Nat) (r0 : Option Nat) : x_Met l base D dA yX8_canWrite cX8_canWrite 1 (some .boolean) 0 0 [va_rf r0] (mX8_canWrite F r0) (fun x => some (.int x)) := by
  refine x_Met.of [(0, .inr (.inl r0))] (by decide) (Nat.le_of_ble_eq_true rfl) rfl rfl ?_
  intro p e R s m args below meth c σ a τ ls hfr hlo E hr hk hn S hM hl
  have E : x_E p s m args c cX8_canWrite 1 "WireMoney" D dA := E
  unfold mX8_canWrite at hM
  refine w_aload_n E hl 0 dX8_canWrite_0 rfl ?_
  refine w_rI E S hM lk_8_135 rfl dX8_canWrite_1 (fun v1 hM => ?_)
  refine w_aload_n E hl 0 dX8_canWrite_4 rfl ?_
  refine w_rR E S hM lk_8_31 rfl dX8_canWrite_5 (fun v5 hM => ?_)
  refine w_aL E S hM (by decide) dX8_canWrite_8 (fun v8 hM => ?_)
  refine lv_icmp_ge (tgt := 16) E.1 E.2.1 dX8_canWrite_9 (by decide) (fun c9 => ?_) (fun c9 => ?_)
  · replace hM := x_okT hM c9
    refine lv_iconst (v := (0 : Int32)) E.1 E.2.1 dX8_canWrite_16 (by decide) ?_
    exact w_zretc E S hM (by decide) hr hk dX8_canWrite_17
  · replace hM := x_okF hM c9
    refine lv_iconst (v := (1 : Int32)) E.1 E.2.1 dX8_canWrite_12 (by decide) ?_
    refine lv_goto (tgt := 17) E.1 E.2.1 dX8_canWrite_13 (by decide) ?_
    exact w_zretc E S hM (by decide) hr hk dX8_canWrite_17
theorem dX8_enqueue_0 : decode cX8_enqueue 0 = .ok (.aload_n 0, 1) := by decide +kernel
theorem dX8_enqueue_1 : decode cX8_enqueue 1 = .ok (.getfield 12, 3) := by decide +kernel
theorem dX8_enqueue_4 : decode cX8_enqueue 4 = .ok (.aload_n 1, 1) := by decide +kernel
theorem dX8_enqueue_5 : decode cX8_enqueue 5 = .ok (.getfield 205, 3) := by decide +kernel
theorem dX8_enqueue_8 : decode cX8_enqueue 8 = .ok (.aload_n 1, 1) := by decide +kernel
theorem dX8_enqueue_9 : decode cX8_enqueue 9 = .ok (.getfield 204, 3) := by decide +kernel
theorem dX8_enqueue_12 : decode cX8_enqueue 12 = .ok (.invokevirtual 269, 3) := by decide +kernel
theorem dX8_enqueue_15 : decode cX8_enqueue 15 = .ok (.astore_n 2, 1) := by decide +kernel
theorem dX8_enqueue_16 : decode cX8_enqueue 16 = .ok (.aload_n 2, 1) := by decide +kernel
theorem dX8_enqueue_17 : decode cX8_enqueue 17 = .ok (.ifnull 15, 3) := by decide +kernel
theorem dX8_enqueue_20 : decode cX8_enqueue 20 = .ok (.aload_n 2, 1) := by decide +kernel
theorem dX8_enqueue_21 : decode cX8_enqueue 21 = .ok (.aload_n 1, 1) := by decide +kernel
theorem dX8_enqueue_22 : decode cX8_enqueue 22 = .ok (.getfield 205, 3) := by decide +kernel
theorem dX8_enqueue_25 : decode cX8_enqueue 25 = .ok (.invokevirtual 273, 3) := by decide +kernel
theorem dX8_enqueue_28 : decode cX8_enqueue 28 = .ok (.aload_n 1, 1) := by decide +kernel
theorem dX8_enqueue_29 : decode cX8_enqueue 29 = .ok (.invokevirtual 277, 3) := by decide +kernel
theorem dX8_enqueue_32 : decode cX8_enqueue 32 = .ok (.return_, 1) := by decide +kernel
theorem mcX8_enqueue : x_mc yX8_enqueue cX8_enqueue 3 none 1 := ⟨wd_439, wd_1, by decide +kernel⟩
set_option maxHeartbeats 4000000 in
set_option maxRecDepth 100000 in
theorem kX8_enqueue (l : Launch) (base : Nat) (D : va_G) (dA : Nat → ClassId) (F : Nat) (r0 : Option Nat) (r1 : Option Nat) : x_Met l base D dA yX8_enqueue cX8_enqueue 3 none 1 23 [va_rf r0, va_rf r1] (mX8_enqueue F r0 r1) (fun _ => none) := by
  refine x_Met.of [(0, .inr (.inl r0)), (1, .inr (.inl r1))] (by decide) (Nat.le_of_ble_eq_true rfl) rfl rfl ?_
  intro p e R s m args below meth c σ a τ ls hfr hlo E hr hk hn S hM hl
  have E : x_E p s m args c cX8_enqueue 3 "WireMoney" D dA := E
  unfold mX8_enqueue at hM
  refine w_aload_n E hl 0 dX8_enqueue_0 rfl ?_
  refine w_rR E S hM lk_8_12 rfl dX8_enqueue_1 (fun v1 hM => ?_)
  refine w_aload_n E hl 1 dX8_enqueue_4 rfl ?_
  refine w_rR E S hM lk_8_205 rfl dX8_enqueue_5 (fun v5 hM => ?_)
  refine w_aload_n E hl 1 dX8_enqueue_8 rfl ?_
  refine w_rR E S hM lk_8_204 rfl dX8_enqueue_9 (fun v9 hM => ?_)
  refine w_cVq (rest := []) E S hl hM (kX3_nextWire l base D dA F v1 v5 v9) mcX3_nextWire ⟨by decide, rfl, wd_440, wd_441, wd_442⟩ hfr hlo (by decide) rfl (Nat.le_of_ble_eq_true rfl) dX8_enqueue_12 rfl (fun v12 σ H locs S hM => ?_)
  refine w_astore_n (lt' := [(2, .inr (.inl v12)), (0, .inr (.inl r0)), (1, .inr (.inl r1))]) E hl dX8_enqueue_15 (by decide) rfl (fun ls hl => ?_)
  refine w_aload_n E hl 0 dX8_enqueue_16 rfl ?_
  refine w_ifnull (tgt := 32) E hM dX8_enqueue_17 (by decide) (fun c17 hM => ?_) (fun a17 c17 hM => ?_)
  · skip
    exact w_vret E S hM hr hk dX8_enqueue_32
  · skip
    refine w_aload_n E hl 0 dX8_enqueue_20 rfl ?_
    refine w_aload_n E hl 2 dX8_enqueue_21 rfl ?_
    refine w_rR E S hM lk_8_205 rfl dX8_enqueue_22 (fun v22 hM => ?_)
    refine w_cVq (rest := []) E S hl hM (kX7_queueFrom l base D dA F v12 v22) mcX7_queueFrom ⟨by decide, rfl, wd_444, wd_445, wd_446⟩ hfr hlo (by decide) rfl (Nat.le_of_ble_eq_true rfl) dX8_enqueue_25 rfl (fun v25 σ H locs S hM => ?_)
    refine w_aload_n E hl 2 dX8_enqueue_28 rfl ?_
    refine w_cVv (rest := []) E S hl hM (kX5_add l base D dA F v25 r1) mcX5_add ⟨by decide, rfl, wd_448, wd_449, wd_450⟩ hfr hlo (by decide) rfl (Nat.le_of_ble_eq_true rfl) dX8_enqueue_29 rfl (fun σ H locs S hM => ?_)
    exact w_vret E S hM hr hk dX8_enqueue_32
theorem dX8_write_0 : decode cX8_write 0 = .ok (.aload_n 0, 1) := by decide +kernel
theorem dX8_write_1 : decode cX8_write 1 = .ok (.invokevirtual 97, 3) := by decide +kernel
theorem dX8_write_4 : decode cX8_write 4 = .ok (.ifCond .ne 4, 3) := by decide +kernel
theorem dX8_write_7 : decode cX8_write 7 = .ok (.return_, 1) := by decide +kernel
theorem dX8_write_8 : decode cX8_write 8 = .ok (.iload_n 1, 1) := by decide +kernel
theorem dX8_write_9 : decode cX8_write 9 = .ok (.iconst 2, 1) := by decide +kernel
theorem dX8_write_10 : decode cX8_write 10 = .ok (.if_icmp .eq 8, 3) := by decide +kernel
theorem dX8_write_13 : decode cX8_write 13 = .ok (.iload_n 1, 1) := by decide +kernel
theorem dX8_write_14 : decode cX8_write 14 = .ok (.iconst 3, 1) := by decide +kernel
theorem dX8_write_15 : decode cX8_write 15 = .ok (.if_icmp .ne 7, 3) := by decide +kernel
theorem dX8_write_18 : decode cX8_write 18 = .ok (.iconst 1, 1) := by decide +kernel
theorem dX8_write_19 : decode cX8_write 19 = .ok (.goto 4, 3) := by decide +kernel
theorem dX8_write_22 : decode cX8_write 22 = .ok (.iconst 0, 1) := by decide +kernel
theorem dX8_write_23 : decode cX8_write 23 = .ok (.istore_n 3, 1) := by decide +kernel
theorem dX8_write_24 : decode cX8_write 24 = .ok (.aconst_null, 1) := by decide +kernel
theorem dX8_write_25 : decode cX8_write 25 = .ok (.astore 4, 2) := by decide +kernel
theorem dX8_write_27 : decode cX8_write 27 = .ok (.iload_n 1, 1) := by decide +kernel
theorem dX8_write_28 : decode cX8_write 28 = .ok (.ifCond .ne 31, 3) := by decide +kernel
theorem dX8_write_31 : decode cX8_write 31 = .ok (.new 173, 3) := by decide +kernel
theorem dX8_write_34 : decode cX8_write 34 = .ok (.dup, 1) := by decide +kernel
theorem dX8_write_35 : decode cX8_write 35 = .ok (.aload_n 2, 1) := by decide +kernel
theorem dX8_write_36 : decode cX8_write 36 = .ok (.aload_n 0, 1) := by decide +kernel
theorem dX8_write_37 : decode cX8_write 37 = .ok (.getfield 60, 3) := by decide +kernel
theorem dX8_write_40 : decode cX8_write 40 = .ok (.sipush 1440, 3) := by decide +kernel
theorem dX8_write_43 : decode cX8_write 43 = .ok (.idiv, 1) := by decide +kernel
theorem dX8_write_44 : decode cX8_write 44 = .ok (.invokespecial 259, 3) := by decide +kernel
theorem dX8_write_47 : decode cX8_write 47 = .ok (.astore 4, 2) := by decide +kernel
theorem dX8_write_49 : decode cX8_write 49 = .ok (.aload_n 2, 1) := by decide +kernel
theorem dX8_write_50 : decode cX8_write 50 = .ok (.dup, 1) := by decide +kernel
theorem dX8_write_51 : decode cX8_write 51 = .ok (.getfield 224, 3) := by decide +kernel
theorem dX8_write_54 : decode cX8_write 54 = .ok (.iconst 1, 1) := by decide +kernel
theorem dX8_write_55 : decode cX8_write 55 = .ok (.iadd, 1) := by decide +kernel
theorem dX8_write_56 : decode cX8_write 56 = .ok (.putfield 224, 3) := by decide +kernel
theorem dX8_write_59 : decode cX8_write 59 = .ok (.new 29, 3) := by decide +kernel
theorem dX8_write_62 : decode cX8_write 62 = .ok (.dup, 1) := by decide +kernel
theorem dX8_write_63 : decode cX8_write 63 = .ok (.iload_n 1, 1) := by decide +kernel
theorem dX8_write_64 : decode cX8_write 64 = .ok (.aload_n 2, 1) := by decide +kernel
theorem dX8_write_65 : decode cX8_write 65 = .ok (.iload_n 3, 1) := by decide +kernel
theorem dX8_write_66 : decode cX8_write 66 = .ok (.aload 4, 2) := by decide +kernel
theorem dX8_write_68 : decode cX8_write 68 = .ok (.invokespecial 262, 3) := by decide +kernel
theorem dX8_write_71 : decode cX8_write 71 = .ok (.astore 5, 2) := by decide +kernel
theorem dX8_write_73 : decode cX8_write 73 = .ok (.aload_n 0, 1) := by decide +kernel
theorem dX8_write_74 : decode cX8_write 74 = .ok (.getfield 31, 3) := by decide +kernel
theorem dX8_write_77 : decode cX8_write 77 = .ok (.aload_n 0, 1) := by decide +kernel
theorem dX8_write_78 : decode cX8_write 78 = .ok (.getfield 135, 3) := by decide +kernel
theorem dX8_write_81 : decode cX8_write 81 = .ok (.aload 5, 2) := by decide +kernel
theorem dX8_write_83 : decode cX8_write 83 = .ok (.aastore, 1) := by decide +kernel
theorem dX8_write_84 : decode cX8_write 84 = .ok (.aload_n 0, 1) := by decide +kernel
theorem dX8_write_85 : decode cX8_write 85 = .ok (.dup, 1) := by decide +kernel
theorem dX8_write_86 : decode cX8_write 86 = .ok (.getfield 135, 3) := by decide +kernel
theorem dX8_write_89 : decode cX8_write 89 = .ok (.iconst 1, 1) := by decide +kernel
theorem dX8_write_90 : decode cX8_write 90 = .ok (.iadd, 1) := by decide +kernel
theorem dX8_write_91 : decode cX8_write 91 = .ok (.putfield 135, 3) := by decide +kernel
theorem dX8_write_94 : decode cX8_write 94 = .ok (.aload_n 0, 1) := by decide +kernel
theorem dX8_write_95 : decode cX8_write 95 = .ok (.aload 5, 2) := by decide +kernel
theorem dX8_write_97 : decode cX8_write 97 = .ok (.invokevirtual 265, 3) := by decide +kernel
theorem dX8_write_100 : decode cX8_write 100 = .ok (.return_, 1) := by decide +kernel
set_option maxHeartbeats 4000000 in
set_option maxRecDepth 100000 in
theorem bX8_write_59 {p : Program} {l : Launch} {e : Env} {R : Room} {s : State} {m : MethodId} {args : Array Value} {below : List Frame} {meth : Method} {c : Code} {base : Nat} {D : va_G} {dA : Nat → ClassId} {σ0 : PH} {z : Unit × PH} {F : Nat} (E : x_E p s m args c cX8_write 6 "WireMoney" D dA) (hr : meth.sig.returnType = none) (hk : meth.locks = false) (hfr : R.frames = 2) (hlo : R.locals = 49) : ∀ (y0 : Option Nat) (y1 : Int32) (y2 : Option Nat) (y3 : Int32) (y4 : Option Nat) (σ : PH) (H : Heap) (locs : List Loc) (ls : Array Slot), x_S base D dA R s σ0 z.2 σ H locs → x_rn (mX8_write_59 F y0 y1 y2 y3 y4) σ = some z → x_lv ls 6 [(0, .inr (.inl y0)), (1, .inl y1), (2, .inr (.inl y2)), (3, .inl y3), (4, .inr (.inl y4))] → W p l e R s m args below meth c H locs (x_N σ - x_N σ0) (x_U σ - x_U σ0) (x_end below args s base D dA (fun _ => none) σ0 z) (F0 m 59 ls []) := by
  intro y0 y1 y2 y3 y4 σ H locs ls S hM hl
  unfold mX8_write_59 at hM
  refine w_new E S hM ⟨by decide, wd_74⟩ dX8_write_59 (fun v59 σ H S hM => ?_)
  refine lv_dup E.1 E.2.1 dX8_write_62 (x_cat _) ?_
  refine w_iload_n E hl 1 dX8_write_63 rfl ?_
  refine w_aload_n E hl 2 dX8_write_64 rfl ?_
  refine w_iload_n E hl 3 dX8_write_65 rfl ?_
  refine w_aload E hl 4 dX8_write_66 rfl ?_
  refine w_cI (rest := [va_rf (some v59)]) E S hl hM (kX2_init l base D dA F v59 y1 y2 y3 y4) mcX2_init ⟨wd_389, wd_390, rfl⟩ (by rw [hfr, hlo]; decide) rfl (Nat.le_of_ble_eq_true rfl) dX8_write_68 rfl (fun σ H locs S hM => ?_)
  refine w_astore (lt' := [(5, .inr (.inl (some v59))), (0, .inr (.inl y0)), (1, .inl y1), (2, .inr (.inl y2)), (3, .inl y3), (4, .inr (.inl y4))]) E hl dX8_write_71 (by decide) rfl (fun ls hl => ?_)
  refine w_aload_n E hl 1 dX8_write_73 rfl ?_
  refine w_rR E S hM lk_8_31 rfl dX8_write_74 (fun v74 hM => ?_)
  refine w_aload_n E hl 1 dX8_write_77 rfl ?_
  refine w_rI E S hM lk_8_135 rfl dX8_write_78 (fun v78 hM => ?_)
  refine w_aload E hl 0 dX8_write_81 rfl ?_
  refine w_sQ E S hM ⟨by decide, by decide, by decide, rfl⟩ dX8_write_83 (fun σ H locs S hM => ?_)
  refine w_aload_n E hl 1 dX8_write_84 rfl ?_
  refine lv_dup E.1 E.2.1 dX8_write_85 (x_cat _) ?_
  refine w_rI E S hM lk_8_135 rfl dX8_write_86 (fun v86 hM => ?_)
  refine lv_iconst (v := (1 : Int32)) E.1 E.2.1 dX8_write_89 (by decide) ?_
  refine lv_iadd E.1 E.2.1 dX8_write_90 ?_
  refine w_wI E S hM lk_8_135 rfl (Or.inl rfl) dX8_write_91 (fun σ H locs S hM => ?_)
  refine w_aload_n E hl 1 dX8_write_94 rfl ?_
  refine w_aload E hl 0 dX8_write_95 rfl ?_
  refine w_cVv (rest := []) E S hl hM (kX8_enqueue l base D dA F y0 (some v59)) mcX8_enqueue ⟨by decide, rfl, wd_436, wd_438, wp_8⟩ hfr hlo (by decide) rfl (Nat.le_of_ble_eq_true rfl) dX8_write_97 rfl (fun σ H locs S hM => ?_)
  exact w_vret E S hM hr hk dX8_write_100
set_option maxHeartbeats 4000000 in
set_option maxRecDepth 100000 in
theorem bX8_write_23 {p : Program} {l : Launch} {e : Env} {R : Room} {s : State} {m : MethodId} {args : Array Value} {below : List Frame} {meth : Method} {c : Code} {base : Nat} {D : va_G} {dA : Nat → ClassId} {σ0 : PH} {z : Unit × PH} {F : Nat} (E : x_E p s m args c cX8_write 6 "WireMoney" D dA) (hr : meth.sig.returnType = none) (hk : meth.locks = false) (hfr : R.frames = 2) (hlo : R.locals = 49) : ∀ (y0 : Option Nat) (y1 : Int32) (y2 : Option Nat) (t0 : Int32) (σ : PH) (H : Heap) (locs : List Loc) (ls : Array Slot), x_S base D dA R s σ0 z.2 σ H locs → x_rn (mX8_write_23 F y0 y1 y2 t0) σ = some z → x_lv ls 6 [(0, .inr (.inl y0)), (1, .inl y1), (2, .inr (.inl y2))] → W p l e R s m args below meth c H locs (x_N σ - x_N σ0) (x_U σ - x_U σ0) (x_end below args s base D dA (fun _ => none) σ0 z) (F0 m 23 ls [.int t0]) := by
  intro y0 y1 y2 t0 σ H locs ls S hM hl
  unfold mX8_write_23 at hM
  refine w_istore_n (lt' := [(3, .inl t0), (0, .inr (.inl y0)), (1, .inl y1), (2, .inr (.inl y2))]) E hl dX8_write_23 (by decide) rfl (fun ls hl => ?_)
  refine w_null E dX8_write_24 ?_
  refine w_astore (lt' := [(4, .inr (.inl (none : Option Nat))), (3, .inl t0), (0, .inr (.inl y0)), (1, .inl y1), (2, .inr (.inl y2))]) E hl dX8_write_25 (by decide) rfl (fun ls hl => ?_)
  refine w_iload_n E hl 3 dX8_write_27 rfl ?_
  refine lv_if_ne (tgt := 59) E.1 E.2.1 dX8_write_28 (by decide) (fun c28 => ?_) (fun c28 => ?_)
  · replace hM := x_okF hM c28
    exact bX8_write_59 E hr hk hfr hlo y0 y1 y2 t0 (none : Option Nat) _ _ _ _ S hM (x_lv_sub hl [2, 3, 4, 1, 0] rfl)
  · replace hM := x_okT hM c28
    refine w_new E S hM ⟨by decide, wd_362⟩ dX8_write_31 (fun v31 σ H S hM => ?_)
    refine lv_dup E.1 E.2.1 dX8_write_34 (x_cat _) ?_
    refine w_aload_n E hl 4 dX8_write_35 rfl ?_
    refine w_aload_n E hl 2 dX8_write_36 rfl ?_
    refine w_rI E S hM lk_8_60 rfl dX8_write_37 (fun v37 hM => ?_)
    refine lv_sipush (v := (1440 : Int32)) E.1 E.2.1 dX8_write_40 (by decide) ?_
    refine lv_idiv E.1 E.2.1 dX8_write_43 (by decide) ?_
    refine w_cI (rest := [va_rf (some v31)]) E S hl hM (kX6_init l base D dA F v31 y2 (v37 / (1440 : Int32))) mcX6_init ⟨wd_364, wd_365, rfl⟩ (by rw [hfr, hlo]; decide) rfl (Nat.le_of_ble_eq_true rfl) dX8_write_44 rfl (fun σ H locs S hM => ?_)
    refine w_astore (lt' := [(4, .inr (.inl (some v31))), (3, .inl t0), (0, .inr (.inl y0)), (1, .inl y1), (2, .inr (.inl y2))]) E hl dX8_write_47 (by decide) rfl (fun ls hl => ?_)
    refine w_aload_n E hl 4 dX8_write_49 rfl ?_
    refine lv_dup E.1 E.2.1 dX8_write_50 (x_cat _) ?_
    refine w_rI E S hM lk_8_224 rfl dX8_write_51 (fun v51 hM => ?_)
    refine lv_iconst (v := (1 : Int32)) E.1 E.2.1 dX8_write_54 (by decide) ?_
    refine lv_iadd E.1 E.2.1 dX8_write_55 ?_
    refine w_wI E S hM lk_8_224 rfl (Or.inl rfl) dX8_write_56 (fun σ H locs S hM => ?_)
    exact bX8_write_59 E hr hk hfr hlo y0 y1 y2 t0 (some v31) _ _ _ _ S hM (x_lv_sub hl [2, 3, 4, 1, 0] rfl)
theorem mcX8_write : x_mc yX8_write cX8_write 6 none 2 := ⟨wd_361, wd_1, by decide +kernel⟩
set_option maxHeartbeats 4000000 in
set_option maxRecDepth 100000 in
theorem kX8_write (l : Launch) (base : Nat) (D : va_G) (dA : Nat → ClassId) (F : Nat) (r0 : Option Nat) (x1 : Int32) (r2 : Option Nat) : x_Met l base D dA yX8_write cX8_write 6 none 2 49 [va_rf r0, .int x1, va_rf r2] (mX8_write F r0 x1 r2) (fun _ => none) := by
  refine x_Met.of [(0, .inr (.inl r0)), (1, .inl x1), (2, .inr (.inl r2))] (by decide) (Nat.le_of_ble_eq_true rfl) rfl rfl ?_
  intro p e R s m args below meth c σ a τ ls hfr hlo E hr hk hn S hM hl
  have E : x_E p s m args c cX8_write 6 "WireMoney" D dA := E
  unfold mX8_write at hM
  refine w_aload_n E hl 0 dX8_write_0 rfl ?_
  refine w_cVi (rest := []) E S hl hM (kX8_canWrite l base D dA F r0) mcX8_canWrite ⟨by decide, rfl, wd_295, wd_297, wp_6⟩ hfr hlo (by decide) rfl (Nat.le_of_ble_eq_true rfl) dX8_write_1 rfl (fun v1 σ H locs S hM => ?_)
  refine lv_if_ne (tgt := 8) E.1 E.2.1 dX8_write_4 (by decide) (fun c4 => ?_) (fun c4 => ?_)
  · replace hM := x_okF hM c4
    refine w_iload_n E hl 1 dX8_write_8 rfl ?_
    refine lv_iconst (v := (2 : Int32)) E.1 E.2.1 dX8_write_9 (by decide) ?_
    refine lv_icmp_eq (tgt := 18) E.1 E.2.1 dX8_write_10 (by decide) (fun c10 => ?_) (fun c10 => ?_)
    · replace hM := x_okT hM c10
      refine lv_iconst (v := (1 : Int32)) E.1 E.2.1 dX8_write_18 (by decide) ?_
      refine lv_goto (tgt := 23) E.1 E.2.1 dX8_write_19 (by decide) ?_
      exact bX8_write_23 E hr hk hfr hlo r0 x1 r2 (1 : Int32) _ _ _ _ S hM (x_lv_sub hl [0, 1, 2] rfl)
    · replace hM := x_okF hM c10
      refine w_iload_n E hl 1 dX8_write_13 rfl ?_
      refine lv_iconst (v := (3 : Int32)) E.1 E.2.1 dX8_write_14 (by decide) ?_
      refine lv_icmp_ne (tgt := 22) E.1 E.2.1 dX8_write_15 (by decide) (fun c15 => ?_) (fun c15 => ?_)
      · replace hM := x_okF hM c15
        refine lv_iconst (v := (0 : Int32)) E.1 E.2.1 dX8_write_22 (by decide) ?_
        exact bX8_write_23 E hr hk hfr hlo r0 x1 r2 (0 : Int32) _ _ _ _ S hM (x_lv_sub hl [0, 1, 2] rfl)
      · replace hM := x_okT hM c15
        refine lv_iconst (v := (1 : Int32)) E.1 E.2.1 dX8_write_18 (by decide) ?_
        refine lv_goto (tgt := 23) E.1 E.2.1 dX8_write_19 (by decide) ?_
        exact bX8_write_23 E hr hk hfr hlo r0 x1 r2 (1 : Int32) _ _ _ _ S hM (x_lv_sub hl [0, 1, 2] rfl)
  · replace hM := x_okT hM c4
    exact w_vret E S hM hr hk dX8_write_7
