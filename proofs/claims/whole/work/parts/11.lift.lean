theorem dX3_shortenBy_0 : decode cX3_shortenBy 0 = .ok (.iconst 0, 1) := by decide +kernel
theorem dX3_shortenBy_1 : decode cX3_shortenBy 1 = .ok (.istore 4, 2) := by decide +kernel
theorem dX3_shortenBy_3 : decode cX3_shortenBy 3 = .ok (.iload 4, 2) := by decide +kernel
theorem dX3_shortenBy_5 : decode cX3_shortenBy 5 = .ok (.aload_n 0, 1) := by decide +kernel
theorem dX3_shortenBy_6 : decode cX3_shortenBy 6 = .ok (.getfield 23, 3) := by decide +kernel
theorem dX3_shortenBy_9 : decode cX3_shortenBy 9 = .ok (.arraylength, 1) := by decide +kernel
theorem dX3_shortenBy_10 : decode cX3_shortenBy 10 = .ok (.if_icmp .ge 85, 3) := by decide +kernel
theorem dX3_shortenBy_13 : decode cX3_shortenBy 13 = .ok (.iload 4, 2) := by decide +kernel
theorem dX3_shortenBy_15 : decode cX3_shortenBy 15 = .ok (.bipush 10, 2) := by decide +kernel
theorem dX3_shortenBy_17 : decode cX3_shortenBy 17 = .ok (.idiv, 1) := by decide +kernel
theorem dX3_shortenBy_18 : decode cX3_shortenBy 18 = .ok (.istore 5, 2) := by decide +kernel
theorem dX3_shortenBy_20 : decode cX3_shortenBy 20 = .ok (.iload 4, 2) := by decide +kernel
theorem dX3_shortenBy_22 : decode cX3_shortenBy 22 = .ok (.bipush 10, 2) := by decide +kernel
theorem dX3_shortenBy_24 : decode cX3_shortenBy 24 = .ok (.irem, 1) := by decide +kernel
theorem dX3_shortenBy_25 : decode cX3_shortenBy 25 = .ok (.istore 6, 2) := by decide +kernel
theorem dX3_shortenBy_27 : decode cX3_shortenBy 27 = .ok (.aload_n 0, 1) := by decide +kernel
theorem dX3_shortenBy_28 : decode cX3_shortenBy 28 = .ok (.iload 5, 2) := by decide +kernel
theorem dX3_shortenBy_30 : decode cX3_shortenBy 30 = .ok (.iload_n 1, 1) := by decide +kernel
theorem dX3_shortenBy_31 : decode cX3_shortenBy 31 = .ok (.invokevirtual 69, 3) := by decide +kernel
theorem dX3_shortenBy_34 : decode cX3_shortenBy 34 = .ok (.iload_n 3, 1) := by decide +kernel
theorem dX3_shortenBy_35 : decode cX3_shortenBy 35 = .ok (.iadd, 1) := by decide +kernel
theorem dX3_shortenBy_36 : decode cX3_shortenBy 36 = .ok (.aload_n 0, 1) := by decide +kernel
theorem dX3_shortenBy_37 : decode cX3_shortenBy 37 = .ok (.iload_n 2, 1) := by decide +kernel
theorem dX3_shortenBy_38 : decode cX3_shortenBy 38 = .ok (.iload 6, 2) := by decide +kernel
theorem dX3_shortenBy_40 : decode cX3_shortenBy 40 = .ok (.invokevirtual 69, 3) := by decide +kernel
theorem dX3_shortenBy_43 : decode cX3_shortenBy 43 = .ok (.iadd, 1) := by decide +kernel
theorem dX3_shortenBy_44 : decode cX3_shortenBy 44 = .ok (.istore 7, 2) := by decide +kernel
theorem dX3_shortenBy_46 : decode cX3_shortenBy 46 = .ok (.aload_n 0, 1) := by decide +kernel
theorem dX3_shortenBy_47 : decode cX3_shortenBy 47 = .ok (.iload 5, 2) := by decide +kernel
theorem dX3_shortenBy_49 : decode cX3_shortenBy 49 = .ok (.iload_n 2, 1) := by decide +kernel
theorem dX3_shortenBy_50 : decode cX3_shortenBy 50 = .ok (.invokevirtual 69, 3) := by decide +kernel
theorem dX3_shortenBy_53 : decode cX3_shortenBy 53 = .ok (.iload_n 3, 1) := by decide +kernel
theorem dX3_shortenBy_54 : decode cX3_shortenBy 54 = .ok (.iadd, 1) := by decide +kernel
theorem dX3_shortenBy_55 : decode cX3_shortenBy 55 = .ok (.aload_n 0, 1) := by decide +kernel
theorem dX3_shortenBy_56 : decode cX3_shortenBy 56 = .ok (.iload_n 1, 1) := by decide +kernel
theorem dX3_shortenBy_57 : decode cX3_shortenBy 57 = .ok (.iload 6, 2) := by decide +kernel
theorem dX3_shortenBy_59 : decode cX3_shortenBy 59 = .ok (.invokevirtual 69, 3) := by decide +kernel
theorem dX3_shortenBy_62 : decode cX3_shortenBy 62 = .ok (.iadd, 1) := by decide +kernel
theorem dX3_shortenBy_63 : decode cX3_shortenBy 63 = .ok (.istore 8, 2) := by decide +kernel
theorem dX3_shortenBy_65 : decode cX3_shortenBy 65 = .ok (.aload_n 0, 1) := by decide +kernel
theorem dX3_shortenBy_66 : decode cX3_shortenBy 66 = .ok (.getfield 23, 3) := by decide +kernel
theorem dX3_shortenBy_69 : decode cX3_shortenBy 69 = .ok (.iload 4, 2) := by decide +kernel
theorem dX3_shortenBy_71 : decode cX3_shortenBy 71 = .ok (.aload_n 0, 1) := by decide +kernel
theorem dX3_shortenBy_72 : decode cX3_shortenBy 72 = .ok (.getfield 23, 3) := by decide +kernel
theorem dX3_shortenBy_75 : decode cX3_shortenBy 75 = .ok (.iload 4, 2) := by decide +kernel
theorem dX3_shortenBy_77 : decode cX3_shortenBy 77 = .ok (.iaload, 1) := by decide +kernel
theorem dX3_shortenBy_78 : decode cX3_shortenBy 78 = .ok (.iload 7, 2) := by decide +kernel
theorem dX3_shortenBy_80 : decode cX3_shortenBy 80 = .ok (.iload 8, 2) := by decide +kernel
theorem dX3_shortenBy_82 : decode cX3_shortenBy 82 = .ok (.invokestatic 96, 3) := by decide +kernel
theorem dX3_shortenBy_85 : decode cX3_shortenBy 85 = .ok (.invokestatic 96, 3) := by decide +kernel
theorem dX3_shortenBy_88 : decode cX3_shortenBy 88 = .ok (.iastore, 1) := by decide +kernel
theorem dX3_shortenBy_89 : decode cX3_shortenBy 89 = .ok (.iinc 4 1, 3) := by decide +kernel
theorem dX3_shortenBy_92 : decode cX3_shortenBy 92 = .ok (.goto (-89), 3) := by decide +kernel
theorem dX3_shortenBy_95 : decode cX3_shortenBy 95 = .ok (.return_, 1) := by decide +kernel
set_option maxHeartbeats 4000000 in
set_option maxRecDepth 100000 in
theorem bX3_shortenBy_3 {p : Program} {l : Launch} {e : Env} {R : Room} {s : State} {m : MethodId} {args : Array Value} {below : List Frame} {meth : Method} {c : Code} {base : Nat} {D : va_G} {dA : Nat → ClassId} {σ0 : PH} {z : Unit × PH} {F : Nat} (E : x_E p s m args c cX3_shortenBy 9 "WireMoney$Net" D dA) (hr : meth.sig.returnType = none) (hk : meth.locks = false) (hfr : R.frames = 2) (hlo : R.locals = 44) : ∀ (n : Nat) (y0 : Option Nat) (y1 : Int32) (y2 : Int32) (y3 : Int32) (y4 : Int32) (σ : PH) (H : Heap) (locs : List Loc) (ls : Array Slot), x_S base D dA R s σ0 z.2 σ H locs → x_rn (mX3_shortenBy_3 F n y0 y1 y2 y3 y4) σ = some z → x_lv ls 9 [(0, .inr (.inl y0)), (1, .inl y1), (2, .inl y2), (3, .inl y3), (4, .inl y4)] → W p l e R s m args below meth c H locs (x_N σ - x_N σ0) (x_U σ - x_U σ0) (x_end below args s base D dA (fun _ => none) σ0 z) (F0 m 3 ls []) := by
  intro n
  induction n with
  | zero =>
    intro y0 y1 y2 y3 y4 σ H locs ls S hM hl
    cases hM
  | succ n ih =>
    intro y0 y1 y2 y3 y4 σ H locs ls S hM hl
    rw [mX3_shortenBy_3] at hM
    refine w_iload E hl 4 dX3_shortenBy_3 rfl ?_
    refine w_aload_n E hl 0 dX3_shortenBy_5 rfl ?_
    refine w_rR E S hM lk_3_23 rfl dX3_shortenBy_6 (fun v6 hM => ?_)
    refine w_aL E S hM (by decide) dX3_shortenBy_9 (fun v9 hM => ?_)
    refine lv_icmp_ge (tgt := 95) E.1 E.2.1 dX3_shortenBy_10 (by decide) (fun c10 => ?_) (fun c10 => ?_)
    · replace hM := x_okT hM c10
      exact w_vret E S hM hr hk dX3_shortenBy_95
    · replace hM := x_okF hM c10
      refine w_iload E hl 4 dX3_shortenBy_13 rfl ?_
      refine lv_bipush (v := (10 : Int32)) E.1 E.2.1 dX3_shortenBy_15 (by decide) ?_
      refine lv_idiv E.1 E.2.1 dX3_shortenBy_17 (by decide) ?_
      refine w_nm hM (fun v18 hM => ?_)
      refine w_istore (lt' := [(5, .inl v18), (0, .inr (.inl y0)), (1, .inl y1), (2, .inl y2), (3, .inl y3), (4, .inl y4)]) E hl dX3_shortenBy_18 (by decide) rfl (fun ls hl => ?_)
      refine w_iload E hl 5 dX3_shortenBy_20 rfl ?_
      refine lv_bipush (v := (10 : Int32)) E.1 E.2.1 dX3_shortenBy_22 (by decide) ?_
      refine w_irem E dX3_shortenBy_24 (by decide) ?_
      refine w_nm hM (fun v25 hM => ?_)
      refine w_istore (lt' := [(6, .inl v25), (5, .inl v18), (0, .inr (.inl y0)), (1, .inl y1), (2, .inl y2), (3, .inl y3), (4, .inl y4)]) E hl dX3_shortenBy_25 (by decide) rfl (fun ls hl => ?_)
      refine w_aload_n E hl 2 dX3_shortenBy_27 rfl ?_
      refine w_iload E hl 1 dX3_shortenBy_28 rfl ?_
      refine w_iload_n E hl 3 dX3_shortenBy_30 rfl ?_
      refine w_cVi (rest := []) E S hl hM (kX3_leastOf l base D dA F y0 v18 y1) mcX3_leastOf ⟨by decide, rfl, wd_227, wd_229, wp_2⟩ hfr hlo (by decide) rfl (Nat.le_of_ble_eq_true rfl) dX3_shortenBy_31 rfl (fun v31 σ H locs S hM => ?_)
      refine w_iload_n E hl 5 dX3_shortenBy_34 rfl ?_
      refine lv_iadd E.1 E.2.1 dX3_shortenBy_35 ?_
      refine w_aload_n E hl 2 dX3_shortenBy_36 rfl ?_
      refine w_iload_n E hl 4 dX3_shortenBy_37 rfl ?_
      refine w_iload E hl 0 dX3_shortenBy_38 rfl ?_
      refine w_cVi (rest := [.int (v31 + y3)]) E S hl hM (kX3_leastOf l base D dA F y0 y2 v25) mcX3_leastOf ⟨by decide, rfl, wd_227, wd_229, wp_2⟩ hfr hlo (by decide) rfl (Nat.le_of_ble_eq_true rfl) dX3_shortenBy_40 rfl (fun v40 σ H locs S hM => ?_)
      refine lv_iadd E.1 E.2.1 dX3_shortenBy_43 ?_
      refine w_nm hM (fun v44 hM => ?_)
      refine w_istore (lt' := [(7, .inl v44), (6, .inl v25), (5, .inl v18), (0, .inr (.inl y0)), (1, .inl y1), (2, .inl y2), (3, .inl y3), (4, .inl y4)]) E hl dX3_shortenBy_44 (by decide) rfl (fun ls hl => ?_)
      refine w_aload_n E hl 3 dX3_shortenBy_46 rfl ?_
      refine w_iload E hl 2 dX3_shortenBy_47 rfl ?_
      refine w_iload_n E hl 5 dX3_shortenBy_49 rfl ?_
      refine w_cVi (rest := []) E S hl hM (kX3_leastOf l base D dA F y0 v18 y2) mcX3_leastOf ⟨by decide, rfl, wd_227, wd_229, wp_2⟩ hfr hlo (by decide) rfl (Nat.le_of_ble_eq_true rfl) dX3_shortenBy_50 rfl (fun v50 σ H locs S hM => ?_)
      refine w_iload_n E hl 6 dX3_shortenBy_53 rfl ?_
      refine lv_iadd E.1 E.2.1 dX3_shortenBy_54 ?_
      refine w_aload_n E hl 3 dX3_shortenBy_55 rfl ?_
      refine w_iload_n E hl 4 dX3_shortenBy_56 rfl ?_
      refine w_iload E hl 1 dX3_shortenBy_57 rfl ?_
      refine w_cVi (rest := [.int (v50 + y3)]) E S hl hM (kX3_leastOf l base D dA F y0 y1 v25) mcX3_leastOf ⟨by decide, rfl, wd_227, wd_229, wp_2⟩ hfr hlo (by decide) rfl (Nat.le_of_ble_eq_true rfl) dX3_shortenBy_59 rfl (fun v59 σ H locs S hM => ?_)
      refine lv_iadd E.1 E.2.1 dX3_shortenBy_62 ?_
      refine w_nm hM (fun v63 hM => ?_)
      refine w_istore (lt' := [(8, .inl v63), (7, .inl v44), (6, .inl v25), (5, .inl v18), (0, .inr (.inl y0)), (1, .inl y1), (2, .inl y2), (3, .inl y3), (4, .inl y4)]) E hl dX3_shortenBy_63 (by decide) rfl (fun ls hl => ?_)
      refine w_aload_n E hl 4 dX3_shortenBy_65 rfl ?_
      refine w_rR E S hM lk_3_23 rfl dX3_shortenBy_66 (fun v66 hM => ?_)
      refine w_iload E hl 8 dX3_shortenBy_69 rfl ?_
      refine w_aload_n E hl 4 dX3_shortenBy_71 rfl ?_
      refine w_rR E S hM lk_3_23 rfl dX3_shortenBy_72 (fun v72 hM => ?_)
      refine w_iload E hl 8 dX3_shortenBy_75 rfl ?_
      refine w_aI E S hM dX3_shortenBy_77 (fun v77 hM => ?_)
      refine w_iload E hl 1 dX3_shortenBy_78 rfl ?_
      refine w_iload E hl 0 dX3_shortenBy_80 rfl ?_
      refine w_mmin E S hl ⟨wd_231, wd_232, wd_8, wd_233⟩ (by rw [hfr, hlo]; decide) (Nat.le_of_ble_eq_true rfl) dX3_shortenBy_82 ?_
      refine w_mmin E S hl ⟨wd_231, wd_232, wd_8, wd_233⟩ (by rw [hfr, hlo]; decide) (Nat.le_of_ble_eq_true rfl) dX3_shortenBy_85 ?_
      refine w_sI E S hM dX3_shortenBy_88 (fun σ H locs S hM => ?_)
      refine w_iincN (ltf := fun v89 => [(4, .inl v89), (8, .inl v63), (7, .inl v44), (6, .inl v25), (5, .inl v18), (0, .inr (.inl y0)), (1, .inl y1), (2, .inl y2), (3, .inl y3)]) E hl 8 hM dX3_shortenBy_89 rfl (by decide) (by decide) (fun _ => rfl) (fun v89 ls hM hl => ?_)
      refine lv_goto (tgt := 3) E.1 E.2.1 dX3_shortenBy_92 (by decide) ?_
      exact ih y0 y1 y2 y3 v89 _ _ _ _ S hM (x_lv_sub hl [5, 6, 7, 8, 0] rfl)
theorem mcX3_shortenBy : x_mc yX3_shortenBy cX3_shortenBy 9 none 3 := ⟨wd_226, wd_2, by decide +kernel⟩
set_option maxHeartbeats 4000000 in
set_option maxRecDepth 100000 in
theorem kX3_shortenBy (l : Launch) (base : Nat) (D : va_G) (dA : Nat → ClassId) (F : Nat) (r0 : Option Nat) (x1 : Int32) (x2 : Int32) (x3 : Int32) : x_Met l base D dA yX3_shortenBy cX3_shortenBy 9 none 2 44 [va_rf r0, .int x1, .int x2, .int x3] (mX3_shortenBy F r0 x1 x2 x3) (fun _ => none) := by
  refine x_Met.of [(0, .inr (.inl r0)), (1, .inl x1), (2, .inl x2), (3, .inl x3)] (by decide) (Nat.le_of_ble_eq_true rfl) rfl rfl ?_
  intro p e R s m args below meth c σ a τ ls hfr hlo E hr hk hn S hM hl
  have E : x_E p s m args c cX3_shortenBy 9 "WireMoney$Net" D dA := E
  unfold mX3_shortenBy at hM
  refine lv_iconst (v := (0 : Int32)) E.1 E.2.1 dX3_shortenBy_0 (by decide) ?_
  refine w_istore (lt' := [(4, .inl (0 : Int32)), (0, .inr (.inl r0)), (1, .inl x1), (2, .inl x2), (3, .inl x3)]) E hl dX3_shortenBy_1 (by decide) rfl (fun ls hl => ?_)
  exact bX3_shortenBy_3 E hr hk hfr hlo F r0 x1 x2 x3 (0 : Int32) _ _ _ _ S hM (x_lv_sub hl [1, 2, 3, 4, 0] rfl)
theorem dX3_findFirstWire_0 : decode cX3_findFirstWire 0 = .ok (.aload_n 0, 1) := by decide +kernel
theorem dX3_findFirstWire_1 : decode cX3_findFirstWire 1 = .ok (.iload_n 1, 1) := by decide +kernel
theorem dX3_findFirstWire_2 : decode cX3_findFirstWire 2 = .ok (.iload_n 2, 1) := by decide +kernel
theorem dX3_findFirstWire_3 : decode cX3_findFirstWire 3 = .ok (.invokevirtual 69, 3) := by decide +kernel
theorem dX3_findFirstWire_6 : decode cX3_findFirstWire 6 = .ok (.istore_n 3, 1) := by decide +kernel
theorem dX3_findFirstWire_7 : decode cX3_findFirstWire 7 = .ok (.iconst 0, 1) := by decide +kernel
theorem dX3_findFirstWire_8 : decode cX3_findFirstWire 8 = .ok (.istore 4, 2) := by decide +kernel
theorem dX3_findFirstWire_10 : decode cX3_findFirstWire 10 = .ok (.iload 4, 2) := by decide +kernel
theorem dX3_findFirstWire_12 : decode cX3_findFirstWire 12 = .ok (.aload_n 0, 1) := by decide +kernel
theorem dX3_findFirstWire_13 : decode cX3_findFirstWire 13 = .ok (.getfield 34, 3) := by decide +kernel
theorem dX3_findFirstWire_16 : decode cX3_findFirstWire 16 = .ok (.if_icmp .ge 63, 3) := by decide +kernel
theorem dX3_findFirstWire_19 : decode cX3_findFirstWire 19 = .ok (.iload_n 1, 1) := by decide +kernel
theorem dX3_findFirstWire_20 : decode cX3_findFirstWire 20 = .ok (.iload 4, 2) := by decide +kernel
theorem dX3_findFirstWire_22 : decode cX3_findFirstWire 22 = .ok (.invokestatic 50, 3) := by decide +kernel
theorem dX3_findFirstWire_25 : decode cX3_findFirstWire 25 = .ok (.istore 5, 2) := by decide +kernel
theorem dX3_findFirstWire_27 : decode cX3_findFirstWire 27 = .ok (.iload 5, 2) := by decide +kernel
theorem dX3_findFirstWire_29 : decode cX3_findFirstWire 29 = .ok (.invokestatic 89, 3) := by decide +kernel
theorem dX3_findFirstWire_32 : decode cX3_findFirstWire 32 = .ok (.ifCond .eq 13, 3) := by decide +kernel
theorem dX3_findFirstWire_35 : decode cX3_findFirstWire 35 = .ok (.aload_n 0, 1) := by decide +kernel
theorem dX3_findFirstWire_36 : decode cX3_findFirstWire 36 = .ok (.getfield 27, 3) := by decide +kernel
theorem dX3_findFirstWire_39 : decode cX3_findFirstWire 39 = .ok (.iload 5, 2) := by decide +kernel
theorem dX3_findFirstWire_41 : decode cX3_findFirstWire 41 = .ok (.aaload, 1) := by decide +kernel
theorem dX3_findFirstWire_42 : decode cX3_findFirstWire 42 = .ok (.goto 4, 3) := by decide +kernel
theorem dX3_findFirstWire_45 : decode cX3_findFirstWire 45 = .ok (.aconst_null, 1) := by decide +kernel
theorem dX3_findFirstWire_46 : decode cX3_findFirstWire 46 = .ok (.astore 6, 2) := by decide +kernel
theorem dX3_findFirstWire_48 : decode cX3_findFirstWire 48 = .ok (.aload 6, 2) := by decide +kernel
theorem dX3_findFirstWire_50 : decode cX3_findFirstWire 50 = .ok (.ifnull 23, 3) := by decide +kernel
theorem dX3_findFirstWire_53 : decode cX3_findFirstWire 53 = .ok (.aload 6, 2) := by decide +kernel
theorem dX3_findFirstWire_55 : decode cX3_findFirstWire 55 = .ok (.getfield 93, 3) := by decide +kernel
theorem dX3_findFirstWire_58 : decode cX3_findFirstWire 58 = .ok (.aload_n 0, 1) := by decide +kernel
theorem dX3_findFirstWire_59 : decode cX3_findFirstWire 59 = .ok (.iload 4, 2) := by decide +kernel
theorem dX3_findFirstWire_61 : decode cX3_findFirstWire 61 = .ok (.iload_n 2, 1) := by decide +kernel
theorem dX3_findFirstWire_62 : decode cX3_findFirstWire 62 = .ok (.invokevirtual 69, 3) := by decide +kernel
theorem dX3_findFirstWire_65 : decode cX3_findFirstWire 65 = .ok (.iadd, 1) := by decide +kernel
theorem dX3_findFirstWire_66 : decode cX3_findFirstWire 66 = .ok (.iload_n 3, 1) := by decide +kernel
theorem dX3_findFirstWire_67 : decode cX3_findFirstWire 67 = .ok (.if_icmp .ne 6, 3) := by decide +kernel
theorem dX3_findFirstWire_70 : decode cX3_findFirstWire 70 = .ok (.aload 6, 2) := by decide +kernel
theorem dX3_findFirstWire_72 : decode cX3_findFirstWire 72 = .ok (.areturn, 1) := by decide +kernel
theorem dX3_findFirstWire_73 : decode cX3_findFirstWire 73 = .ok (.iinc 4 1, 3) := by decide +kernel
theorem dX3_findFirstWire_76 : decode cX3_findFirstWire 76 = .ok (.goto (-66), 3) := by decide +kernel
theorem dX3_findFirstWire_79 : decode cX3_findFirstWire 79 = .ok (.aconst_null, 1) := by decide +kernel
theorem dX3_findFirstWire_80 : decode cX3_findFirstWire 80 = .ok (.areturn, 1) := by decide +kernel
set_option maxHeartbeats 4000000 in
set_option maxRecDepth 100000 in
theorem bX3_findFirstWire_10 {p : Program} {l : Launch} {e : Env} {R : Room} {s : State} {m : MethodId} {args : Array Value} {below : List Frame} {meth : Method} {c : Code} {base : Nat} {D : va_G} {dA : Nat → ClassId} {σ0 : PH} {z : Option Nat × PH} {F : Nat} (E : x_E p s m args c cX3_findFirstWire 7 "WireMoney$Net" D dA) (hr : meth.sig.returnType = (some (.object "WireMoney$Wire"))) (hk : meth.locks = false) (hfr : R.frames = 2) (hlo : R.locals = 44) : ∀ (n : Nat) (y0 : Option Nat) (y1 : Int32) (y2 : Int32) (y3 : Int32) (y4 : Int32) (σ : PH) (H : Heap) (locs : List Loc) (ls : Array Slot), x_S base D dA R s σ0 z.2 σ H locs → x_rn (mX3_findFirstWire_10 F n y0 y1 y2 y3 y4) σ = some z → x_lv ls 7 [(0, .inr (.inl y0)), (1, .inl y1), (2, .inl y2), (3, .inl y3), (4, .inl y4)] → W p l e R s m args below meth c H locs (x_N σ - x_N σ0) (x_U σ - x_U σ0) (x_end below args s base D dA (fun x => some (va_rf x)) σ0 z) (F0 m 10 ls []) := by
  intro n
  induction n with
  | zero =>
    intro y0 y1 y2 y3 y4 σ H locs ls S hM hl
    cases hM
  | succ n ih =>
    intro y0 y1 y2 y3 y4 σ H locs ls S hM hl
    rw [mX3_findFirstWire_10] at hM
    refine w_iload E hl 4 dX3_findFirstWire_10 rfl ?_
    refine w_aload_n E hl 0 dX3_findFirstWire_12 rfl ?_
    refine w_rI E S hM lk_3_34 rfl dX3_findFirstWire_13 (fun v13 hM => ?_)
    refine lv_icmp_ge (tgt := 79) E.1 E.2.1 dX3_findFirstWire_16 (by decide) (fun c16 => ?_) (fun c16 => ?_)
    · replace hM := x_okT hM c16
      refine w_null E dX3_findFirstWire_79 ?_
      exact w_aret E S hM hr hk dX3_findFirstWire_80
    · replace hM := x_okF hM c16
      refine w_iload_n E hl 1 dX3_findFirstWire_19 rfl ?_
      refine w_iload E hl 4 dX3_findFirstWire_20 rfl ?_
      refine w_cSi (rest := []) E S hl hM (kX3_cell l base D dA F y1 y4) mcX3_cell ⟨wd_213, wd_214⟩ hfr hlo (by decide) rfl (Nat.le_of_ble_eq_true rfl) dX3_findFirstWire_22 rfl (fun v22 σ H locs S hM => ?_)
      refine w_istore (lt' := [(5, .inl v22), (0, .inr (.inl y0)), (1, .inl y1), (2, .inl y2), (3, .inl y3), (4, .inl y4)]) E hl dX3_findFirstWire_25 (by decide) rfl (fun ls hl => ?_)
      refine w_iload E hl 0 dX3_findFirstWire_27 rfl ?_
      refine w_cSi (rest := []) E S hl hM (kX3_isCell l base D dA F v22) mcX3_isCell ⟨wd_220, wd_221⟩ hfr hlo (by decide) rfl (Nat.le_of_ble_eq_true rfl) dX3_findFirstWire_29 rfl (fun v29 σ H locs S hM => ?_)
      refine lv_if_eq (tgt := 45) E.1 E.2.1 dX3_findFirstWire_32 (by decide) (fun c32 => ?_) (fun c32 => ?_)
      · replace hM := x_okT hM c32
        refine w_null E dX3_findFirstWire_45 ?_
        refine w_astore (lt' := [(6, .inr (.inl (none : Option Nat))), (5, .inl v22), (0, .inr (.inl y0)), (1, .inl y1), (2, .inl y2), (3, .inl y3), (4, .inl y4)]) E hl dX3_findFirstWire_46 (by decide) rfl (fun ls hl => ?_)
        refine w_aload E hl 0 dX3_findFirstWire_48 rfl ?_
        refine w_ifnull (tgt := 73) E hM dX3_findFirstWire_50 (by decide) (fun c50 hM => ?_) (fun a50 c50 hM => ?_)
        · skip
          refine w_iincN (ltf := fun v73 => [(4, .inl v73), (6, .inr (.inl (none : Option Nat))), (5, .inl v22), (0, .inr (.inl y0)), (1, .inl y1), (2, .inl y2), (3, .inl y3)]) E hl 6 hM dX3_findFirstWire_73 rfl (by decide) (by decide) (fun _ => rfl) (fun v73 ls hM hl => ?_)
          refine lv_goto (tgt := 10) E.1 E.2.1 dX3_findFirstWire_76 (by decide) ?_
          exact ih y0 y1 y2 y3 v73 _ _ _ _ S hM (x_lv_sub hl [3, 4, 5, 6, 0] rfl)
        · skip
          refine w_aload E hl 0 dX3_findFirstWire_53 rfl ?_
          refine w_rI E S hM lk_3_93 rfl dX3_findFirstWire_55 (fun v55 hM => ?_)
          refine w_aload_n E hl 2 dX3_findFirstWire_58 rfl ?_
          refine w_iload E hl 6 dX3_findFirstWire_59 rfl ?_
          refine w_iload_n E hl 4 dX3_findFirstWire_61 rfl ?_
          refine w_cVi (rest := [.int v55]) E S hl hM (kX3_leastOf l base D dA F y0 y4 y2) mcX3_leastOf ⟨by decide, rfl, wd_227, wd_229, wp_2⟩ hfr hlo (by decide) rfl (Nat.le_of_ble_eq_true rfl) dX3_findFirstWire_62 rfl (fun v62 σ H locs S hM => ?_)
          refine lv_iadd E.1 E.2.1 dX3_findFirstWire_65 ?_
          refine w_iload_n E hl 5 dX3_findFirstWire_66 rfl ?_
          refine lv_icmp_ne (tgt := 73) E.1 E.2.1 dX3_findFirstWire_67 (by decide) (fun c67 => ?_) (fun c67 => ?_)
          · replace hM := x_okF hM c67
            refine w_iincN (ltf := fun v73 => [(4, .inl v73), (6, .inr (.inl (none : Option Nat))), (5, .inl v22), (0, .inr (.inl y0)), (1, .inl y1), (2, .inl y2), (3, .inl y3)]) E hl 6 hM dX3_findFirstWire_73 rfl (by decide) (by decide) (fun _ => rfl) (fun v73 ls hM hl => ?_)
            refine lv_goto (tgt := 10) E.1 E.2.1 dX3_findFirstWire_76 (by decide) ?_
            exact ih y0 y1 y2 y3 v73 _ _ _ _ S hM (x_lv_sub hl [3, 4, 5, 6, 0] rfl)
          · replace hM := x_okT hM c67
            refine w_aload E hl 0 dX3_findFirstWire_70 rfl ?_
            exact w_aret E S hM hr hk dX3_findFirstWire_72
      · replace hM := x_okF hM c32
        refine w_aload_n E hl 1 dX3_findFirstWire_35 rfl ?_
        refine w_rR E S hM lk_3_27 rfl dX3_findFirstWire_36 (fun v36 hM => ?_)
        refine w_iload E hl 0 dX3_findFirstWire_39 rfl ?_
        refine w_aQ E S hM (by decide) dX3_findFirstWire_41 (fun v41 hM => ?_)
        refine lv_goto (tgt := 46) E.1 E.2.1 dX3_findFirstWire_42 (by decide) ?_
        refine w_astore (lt' := [(6, .inr (.inl v41)), (5, .inl v22), (0, .inr (.inl y0)), (1, .inl y1), (2, .inl y2), (3, .inl y3), (4, .inl y4)]) E hl dX3_findFirstWire_46 (by decide) rfl (fun ls hl => ?_)
        refine w_aload E hl 0 dX3_findFirstWire_48 rfl ?_
        refine w_ifnull (tgt := 73) E hM dX3_findFirstWire_50 (by decide) (fun c50 hM => ?_) (fun a50 c50 hM => ?_)
        · skip
          refine w_iincN (ltf := fun v73 => [(4, .inl v73), (6, .inr (.inl v41)), (5, .inl v22), (0, .inr (.inl y0)), (1, .inl y1), (2, .inl y2), (3, .inl y3)]) E hl 6 hM dX3_findFirstWire_73 rfl (by decide) (by decide) (fun _ => rfl) (fun v73 ls hM hl => ?_)
          refine lv_goto (tgt := 10) E.1 E.2.1 dX3_findFirstWire_76 (by decide) ?_
          exact ih y0 y1 y2 y3 v73 _ _ _ _ S hM (x_lv_sub hl [3, 4, 5, 6, 0] rfl)
        · skip
          refine w_aload E hl 0 dX3_findFirstWire_53 rfl ?_
          refine w_rI E S hM lk_3_93 rfl dX3_findFirstWire_55 (fun v55 hM => ?_)
          refine w_aload_n E hl 2 dX3_findFirstWire_58 rfl ?_
          refine w_iload E hl 6 dX3_findFirstWire_59 rfl ?_
          refine w_iload_n E hl 4 dX3_findFirstWire_61 rfl ?_
          refine w_cVi (rest := [.int v55]) E S hl hM (kX3_leastOf l base D dA F y0 y4 y2) mcX3_leastOf ⟨by decide, rfl, wd_227, wd_229, wp_2⟩ hfr hlo (by decide) rfl (Nat.le_of_ble_eq_true rfl) dX3_findFirstWire_62 rfl (fun v62 σ H locs S hM => ?_)
          refine lv_iadd E.1 E.2.1 dX3_findFirstWire_65 ?_
          refine w_iload_n E hl 5 dX3_findFirstWire_66 rfl ?_
          refine lv_icmp_ne (tgt := 73) E.1 E.2.1 dX3_findFirstWire_67 (by decide) (fun c67 => ?_) (fun c67 => ?_)
          · replace hM := x_okF hM c67
            refine w_iincN (ltf := fun v73 => [(4, .inl v73), (6, .inr (.inl v41)), (5, .inl v22), (0, .inr (.inl y0)), (1, .inl y1), (2, .inl y2), (3, .inl y3)]) E hl 6 hM dX3_findFirstWire_73 rfl (by decide) (by decide) (fun _ => rfl) (fun v73 ls hM hl => ?_)
            refine lv_goto (tgt := 10) E.1 E.2.1 dX3_findFirstWire_76 (by decide) ?_
            exact ih y0 y1 y2 y3 v73 _ _ _ _ S hM (x_lv_sub hl [3, 4, 5, 6, 0] rfl)
          · replace hM := x_okT hM c67
            refine w_aload E hl 0 dX3_findFirstWire_70 rfl ?_
            exact w_aret E S hM hr hk dX3_findFirstWire_72
theorem mcX3_findFirstWire : x_mc yX3_findFirstWire cX3_findFirstWire 7 (some (.object "WireMoney$Wire")) 2 := ⟨wd_241, wd_2, by decide +kernel⟩
set_option maxHeartbeats 4000000 in
set_option maxRecDepth 100000 in
theorem kX3_findFirstWire (l : Launch) (base : Nat) (D : va_G) (dA : Nat → ClassId) (F : Nat) (r0 : Option Nat) (x1 : Int32) (x2 : Int32) : x_Met l base D dA yX3_findFirstWire cX3_findFirstWire 7 (some (.object "WireMoney$Wire")) 2 44 [va_rf r0, .int x1, .int x2] (mX3_findFirstWire F r0 x1 x2) (fun x => some (va_rf x)) := by
  refine x_Met.of [(0, .inr (.inl r0)), (1, .inl x1), (2, .inl x2)] (by decide) (Nat.le_of_ble_eq_true rfl) rfl rfl ?_
  intro p e R s m args below meth c σ a τ ls hfr hlo E hr hk hn S hM hl
  have E : x_E p s m args c cX3_findFirstWire 7 "WireMoney$Net" D dA := E
  unfold mX3_findFirstWire at hM
  refine w_aload_n E hl 0 dX3_findFirstWire_0 rfl ?_
  refine w_iload_n E hl 1 dX3_findFirstWire_1 rfl ?_
  refine w_iload_n E hl 2 dX3_findFirstWire_2 rfl ?_
  refine w_cVi (rest := []) E S hl hM (kX3_leastOf l base D dA F r0 x1 x2) mcX3_leastOf ⟨by decide, rfl, wd_227, wd_229, wp_2⟩ hfr hlo (by decide) rfl (Nat.le_of_ble_eq_true rfl) dX3_findFirstWire_3 rfl (fun v3 σ H locs S hM => ?_)
  refine w_istore_n (lt' := [(3, .inl v3), (0, .inr (.inl r0)), (1, .inl x1), (2, .inl x2)]) E hl dX3_findFirstWire_6 (by decide) rfl (fun ls hl => ?_)
  refine lv_iconst (v := (0 : Int32)) E.1 E.2.1 dX3_findFirstWire_7 (by decide) ?_
  refine w_istore (lt' := [(4, .inl (0 : Int32)), (3, .inl v3), (0, .inr (.inl r0)), (1, .inl x1), (2, .inl x2)]) E hl dX3_findFirstWire_8 (by decide) rfl (fun ls hl => ?_)
  exact bX3_findFirstWire_10 E hr hk hfr hlo F r0 x1 x2 v3 (0 : Int32) _ _ _ _ S hM (x_lv_sub hl [2, 3, 4, 1, 0] rfl)
theorem dX3_layWays_0 : decode cX3_layWays 0 = .ok (.iconst 0, 1) := by decide +kernel
theorem dX3_layWays_1 : decode cX3_layWays 1 = .ok (.istore_n 1, 1) := by decide +kernel
theorem dX3_layWays_2 : decode cX3_layWays 2 = .ok (.iload_n 1, 1) := by decide +kernel
theorem dX3_layWays_3 : decode cX3_layWays 3 = .ok (.aload_n 0, 1) := by decide +kernel
theorem dX3_layWays_4 : decode cX3_layWays 4 = .ok (.getfield 30, 3) := by decide +kernel
theorem dX3_layWays_7 : decode cX3_layWays 7 = .ok (.arraylength, 1) := by decide +kernel
theorem dX3_layWays_8 : decode cX3_layWays 8 = .ok (.if_icmp .ge 27, 3) := by decide +kernel
theorem dX3_layWays_11 : decode cX3_layWays 11 = .ok (.aload_n 0, 1) := by decide +kernel
theorem dX3_layWays_12 : decode cX3_layWays 12 = .ok (.getfield 30, 3) := by decide +kernel
theorem dX3_layWays_15 : decode cX3_layWays 15 = .ok (.iload_n 1, 1) := by decide +kernel
theorem dX3_layWays_16 : decode cX3_layWays 16 = .ok (.aload_n 0, 1) := by decide +kernel
theorem dX3_layWays_17 : decode cX3_layWays 17 = .ok (.iload_n 1, 1) := by decide +kernel
theorem dX3_layWays_18 : decode cX3_layWays 18 = .ok (.bipush 10, 2) := by decide +kernel
theorem dX3_layWays_20 : decode cX3_layWays 20 = .ok (.idiv, 1) := by decide +kernel
theorem dX3_layWays_21 : decode cX3_layWays 21 = .ok (.iload_n 1, 1) := by decide +kernel
theorem dX3_layWays_22 : decode cX3_layWays 22 = .ok (.bipush 10, 2) := by decide +kernel
theorem dX3_layWays_24 : decode cX3_layWays 24 = .ok (.irem, 1) := by decide +kernel
theorem dX3_layWays_25 : decode cX3_layWays 25 = .ok (.invokevirtual 101, 3) := by decide +kernel
theorem dX3_layWays_28 : decode cX3_layWays 28 = .ok (.aastore, 1) := by decide +kernel
theorem dX3_layWays_29 : decode cX3_layWays 29 = .ok (.iinc 1 1, 3) := by decide +kernel
theorem dX3_layWays_32 : decode cX3_layWays 32 = .ok (.goto (-30), 3) := by decide +kernel
theorem dX3_layWays_35 : decode cX3_layWays 35 = .ok (.return_, 1) := by decide +kernel
set_option maxHeartbeats 4000000 in
set_option maxRecDepth 100000 in
theorem bX3_layWays_2 {p : Program} {l : Launch} {e : Env} {R : Room} {s : State} {m : MethodId} {args : Array Value} {below : List Frame} {meth : Method} {c : Code} {base : Nat} {D : va_G} {dA : Nat → ClassId} {σ0 : PH} {z : Unit × PH} {F : Nat} (E : x_E p s m args c cX3_layWays 2 "WireMoney$Net" D dA) (hr : meth.sig.returnType = none) (hk : meth.locks = false) (hfr : R.frames = 3) (hlo : R.locals = 70) : ∀ (n : Nat) (y0 : Option Nat) (y1 : Int32) (σ : PH) (H : Heap) (locs : List Loc) (ls : Array Slot), x_S base D dA R s σ0 z.2 σ H locs → x_rn (mX3_layWays_2 F n y0 y1) σ = some z → x_lv ls 2 [(0, .inr (.inl y0)), (1, .inl y1)] → W p l e R s m args below meth c H locs (x_N σ - x_N σ0) (x_U σ - x_U σ0) (x_end below args s base D dA (fun _ => none) σ0 z) (F0 m 2 ls []) := by
  intro n
  induction n with
  | zero =>
    intro y0 y1 σ H locs ls S hM hl
    cases hM
  | succ n ih =>
    intro y0 y1 σ H locs ls S hM hl
    rw [mX3_layWays_2] at hM
    refine w_iload_n E hl 1 dX3_layWays_2 rfl ?_
    refine w_aload_n E hl 0 dX3_layWays_3 rfl ?_
    refine w_rR E S hM lk_3_30 rfl dX3_layWays_4 (fun v4 hM => ?_)
    refine w_aL E S hM (by decide) dX3_layWays_7 (fun v7 hM => ?_)
    refine lv_icmp_ge (tgt := 35) E.1 E.2.1 dX3_layWays_8 (by decide) (fun c8 => ?_) (fun c8 => ?_)
    · replace hM := x_okT hM c8
      exact w_vret E S hM hr hk dX3_layWays_35
    · replace hM := x_okF hM c8
      refine w_aload_n E hl 0 dX3_layWays_11 rfl ?_
      refine w_rR E S hM lk_3_30 rfl dX3_layWays_12 (fun v12 hM => ?_)
      refine w_iload_n E hl 1 dX3_layWays_15 rfl ?_
      refine w_aload_n E hl 0 dX3_layWays_16 rfl ?_
      refine w_iload_n E hl 1 dX3_layWays_17 rfl ?_
      refine lv_bipush (v := (10 : Int32)) E.1 E.2.1 dX3_layWays_18 (by decide) ?_
      refine lv_idiv E.1 E.2.1 dX3_layWays_20 (by decide) ?_
      refine w_iload_n E hl 1 dX3_layWays_21 rfl ?_
      refine lv_bipush (v := (10 : Int32)) E.1 E.2.1 dX3_layWays_22 (by decide) ?_
      refine w_irem E dX3_layWays_24 (by decide) ?_
      refine w_cVq (rest := [.int y1, va_rf v12]) E S hl hM (kX3_findFirstWire l base D dA F y0 (y1 / (10 : Int32)) (x_rem y1 (10 : Int32))) mcX3_findFirstWire ⟨by decide, rfl, wd_238, wd_240, wp_4⟩ hfr hlo (by decide) rfl (Nat.le_of_ble_eq_true rfl) dX3_layWays_25 rfl (fun v25 σ H locs S hM => ?_)
      refine w_sQ E S hM ⟨by decide, by decide, by decide, rfl⟩ dX3_layWays_28 (fun σ H locs S hM => ?_)
      refine w_iincN (ltf := fun v29 => [(1, .inl v29), (0, .inr (.inl y0))]) E hl 1 hM dX3_layWays_29 rfl (by decide) (by decide) (fun _ => rfl) (fun v29 ls hM hl => ?_)
      refine lv_goto (tgt := 2) E.1 E.2.1 dX3_layWays_32 (by decide) ?_
      exact ih y0 v29 _ _ _ _ S hM (x_lv_sub hl [1, 0] rfl)
theorem mcX3_layWays : x_mc yX3_layWays cX3_layWays 2 none 0 := ⟨wd_237, wd_2, by decide +kernel⟩
set_option maxHeartbeats 4000000 in
set_option maxRecDepth 100000 in
theorem kX3_layWays (l : Launch) (base : Nat) (D : va_G) (dA : Nat → ClassId) (F : Nat) (r0 : Option Nat) : x_Met l base D dA yX3_layWays cX3_layWays 2 none 3 70 [va_rf r0] (mX3_layWays F r0) (fun _ => none) := by
  refine x_Met.of [(0, .inr (.inl r0))] (by decide) (Nat.le_of_ble_eq_true rfl) rfl rfl ?_
  intro p e R s m args below meth c σ a τ ls hfr hlo E hr hk hn S hM hl
  have E : x_E p s m args c cX3_layWays 2 "WireMoney$Net" D dA := E
  unfold mX3_layWays at hM
  refine lv_iconst (v := (0 : Int32)) E.1 E.2.1 dX3_layWays_0 (by decide) ?_
  refine w_istore_n (lt' := [(1, .inl (0 : Int32)), (0, .inr (.inl r0))]) E hl dX3_layWays_1 (by decide) rfl (fun ls hl => ?_)
  exact bX3_layWays_2 E hr hk hfr hlo F r0 (0 : Int32) _ _ _ _ S hM (x_lv_sub hl [1, 0] rfl)
theorem dX3_addWire_0 : decode cX3_addWire 0 = .ok (.aload_n 0, 1) := by decide +kernel
theorem dX3_addWire_1 : decode cX3_addWire 1 = .ok (.getfield 38, 3) := by decide +kernel
theorem dX3_addWire_4 : decode cX3_addWire 4 = .ok (.istore 4, 2) := by decide +kernel
theorem dX3_addWire_6 : decode cX3_addWire 6 = .ok (.iload 4, 2) := by decide +kernel
theorem dX3_addWire_8 : decode cX3_addWire 8 = .ok (.aload_n 0, 1) := by decide +kernel
theorem dX3_addWire_9 : decode cX3_addWire 9 = .ok (.getfield 19, 3) := by decide +kernel
theorem dX3_addWire_12 : decode cX3_addWire 12 = .ok (.arraylength, 1) := by decide +kernel
theorem dX3_addWire_13 : decode cX3_addWire 13 = .ok (.if_icmp .lt 5, 3) := by decide +kernel
theorem dX3_addWire_16 : decode cX3_addWire 16 = .ok (.iconst (-1), 1) := by decide +kernel
theorem dX3_addWire_17 : decode cX3_addWire 17 = .ok (.ireturn, 1) := by decide +kernel
theorem dX3_addWire_18 : decode cX3_addWire 18 = .ok (.new 17, 3) := by decide +kernel
theorem dX3_addWire_21 : decode cX3_addWire 21 = .ok (.dup, 1) := by decide +kernel
theorem dX3_addWire_22 : decode cX3_addWire 22 = .ok (.aload_n 1, 1) := by decide +kernel
theorem dX3_addWire_23 : decode cX3_addWire 23 = .ok (.aload_n 2, 1) := by decide +kernel
theorem dX3_addWire_24 : decode cX3_addWire 24 = .ok (.iload_n 3, 1) := by decide +kernel
theorem dX3_addWire_25 : decode cX3_addWire 25 = .ok (.invokespecial 44, 3) := by decide +kernel
theorem dX3_addWire_28 : decode cX3_addWire 28 = .ok (.astore 5, 2) := by decide +kernel
theorem dX3_addWire_30 : decode cX3_addWire 30 = .ok (.aload_n 0, 1) := by decide +kernel
theorem dX3_addWire_31 : decode cX3_addWire 31 = .ok (.getfield 19, 3) := by decide +kernel
theorem dX3_addWire_34 : decode cX3_addWire 34 = .ok (.iload 4, 2) := by decide +kernel
theorem dX3_addWire_36 : decode cX3_addWire 36 = .ok (.aload 5, 2) := by decide +kernel
theorem dX3_addWire_38 : decode cX3_addWire 38 = .ok (.aastore, 1) := by decide +kernel
theorem dX3_addWire_39 : decode cX3_addWire 39 = .ok (.aload_n 0, 1) := by decide +kernel
theorem dX3_addWire_40 : decode cX3_addWire 40 = .ok (.dup, 1) := by decide +kernel
theorem dX3_addWire_41 : decode cX3_addWire 41 = .ok (.getfield 38, 3) := by decide +kernel
theorem dX3_addWire_44 : decode cX3_addWire 44 = .ok (.iconst 1, 1) := by decide +kernel
theorem dX3_addWire_45 : decode cX3_addWire 45 = .ok (.iadd, 1) := by decide +kernel
theorem dX3_addWire_46 : decode cX3_addWire 46 = .ok (.putfield 38, 3) := by decide +kernel
theorem dX3_addWire_49 : decode cX3_addWire 49 = .ok (.aload_n 0, 1) := by decide +kernel
theorem dX3_addWire_50 : decode cX3_addWire 50 = .ok (.aload_n 1, 1) := by decide +kernel
theorem dX3_addWire_51 : decode cX3_addWire 51 = .ok (.getfield 47, 3) := by decide +kernel
theorem dX3_addWire_54 : decode cX3_addWire 54 = .ok (.aload_n 2, 1) := by decide +kernel
theorem dX3_addWire_55 : decode cX3_addWire 55 = .ok (.getfield 47, 3) := by decide +kernel
theorem dX3_addWire_58 : decode cX3_addWire 58 = .ok (.invokestatic 50, 3) := by decide +kernel
theorem dX3_addWire_61 : decode cX3_addWire 61 = .ok (.aload 5, 2) := by decide +kernel
theorem dX3_addWire_63 : decode cX3_addWire 63 = .ok (.invokevirtual 54, 3) := by decide +kernel
theorem dX3_addWire_66 : decode cX3_addWire 66 = .ok (.aload_n 0, 1) := by decide +kernel
theorem dX3_addWire_67 : decode cX3_addWire 67 = .ok (.aload_n 2, 1) := by decide +kernel
theorem dX3_addWire_68 : decode cX3_addWire 68 = .ok (.getfield 47, 3) := by decide +kernel
theorem dX3_addWire_71 : decode cX3_addWire 71 = .ok (.aload_n 1, 1) := by decide +kernel
theorem dX3_addWire_72 : decode cX3_addWire 72 = .ok (.getfield 47, 3) := by decide +kernel
theorem dX3_addWire_75 : decode cX3_addWire 75 = .ok (.invokestatic 50, 3) := by decide +kernel
theorem dX3_addWire_78 : decode cX3_addWire 78 = .ok (.aload 5, 2) := by decide +kernel
theorem dX3_addWire_80 : decode cX3_addWire 80 = .ok (.invokevirtual 54, 3) := by decide +kernel
theorem dX3_addWire_83 : decode cX3_addWire 83 = .ok (.aload_n 0, 1) := by decide +kernel
theorem dX3_addWire_84 : decode cX3_addWire 84 = .ok (.aload_n 1, 1) := by decide +kernel
theorem dX3_addWire_85 : decode cX3_addWire 85 = .ok (.getfield 47, 3) := by decide +kernel
theorem dX3_addWire_88 : decode cX3_addWire 88 = .ok (.aload_n 2, 1) := by decide +kernel
theorem dX3_addWire_89 : decode cX3_addWire 89 = .ok (.getfield 47, 3) := by decide +kernel
theorem dX3_addWire_92 : decode cX3_addWire 92 = .ok (.iload_n 3, 1) := by decide +kernel
theorem dX3_addWire_93 : decode cX3_addWire 93 = .ok (.invokevirtual 58, 3) := by decide +kernel
theorem dX3_addWire_96 : decode cX3_addWire 96 = .ok (.aload_n 0, 1) := by decide +kernel
theorem dX3_addWire_97 : decode cX3_addWire 97 = .ok (.invokevirtual 62, 3) := by decide +kernel
theorem dX3_addWire_100 : decode cX3_addWire 100 = .ok (.iload 4, 2) := by decide +kernel
theorem dX3_addWire_102 : decode cX3_addWire 102 = .ok (.ireturn, 1) := by decide +kernel
theorem mcX3_addWire : x_mc yX3_addWire cX3_addWire 6 (some .int) 3 := ⟨wd_160, wd_2, by decide +kernel⟩
set_option maxHeartbeats 4000000 in
set_option maxRecDepth 100000 in
theorem kX3_addWire (l : Launch) (base : Nat) (D : va_G) (dA : Nat → ClassId) (F : Nat) (r0 : Option Nat) (r1 : Option Nat) (r2 : Option Nat) (x3 : Int32) : x_Met l base D dA yX3_addWire cX3_addWire 6 (some .int) 4 91 [va_rf r0, va_rf r1, va_rf r2, .int x3] (mX3_addWire F r0 r1 r2 x3) (fun x => some (.int x)) := by
  refine x_Met.of [(0, .inr (.inl r0)), (1, .inr (.inl r1)), (2, .inr (.inl r2)), (3, .inl x3)] (by decide) (Nat.le_of_ble_eq_true rfl) rfl rfl ?_
  intro p e R s m args below meth c σ a τ ls hfr hlo E hr hk hn S hM hl
  have E : x_E p s m args c cX3_addWire 6 "WireMoney$Net" D dA := E
  unfold mX3_addWire at hM
  refine w_aload_n E hl 0 dX3_addWire_0 rfl ?_
  refine w_rI E S hM lk_3_38 rfl dX3_addWire_1 (fun v1 hM => ?_)
  refine w_istore (lt' := [(4, .inl v1), (0, .inr (.inl r0)), (1, .inr (.inl r1)), (2, .inr (.inl r2)), (3, .inl x3)]) E hl dX3_addWire_4 (by decide) rfl (fun ls hl => ?_)
  refine w_iload E hl 0 dX3_addWire_6 rfl ?_
  refine w_aload_n E hl 1 dX3_addWire_8 rfl ?_
  refine w_rR E S hM lk_3_19 rfl dX3_addWire_9 (fun v9 hM => ?_)
  refine w_aL E S hM (by decide) dX3_addWire_12 (fun v12 hM => ?_)
  refine lv_icmp_lt (tgt := 18) E.1 E.2.1 dX3_addWire_13 (by decide) (fun c13 => ?_) (fun c13 => ?_)
  · replace hM := x_okT hM c13
    refine w_new E S hM ⟨by decide, wd_28⟩ dX3_addWire_18 (fun v18 σ H S hM => ?_)
    refine lv_dup E.1 E.2.1 dX3_addWire_21 (x_cat _) ?_
    refine w_aload_n E hl 2 dX3_addWire_22 rfl ?_
    refine w_aload_n E hl 3 dX3_addWire_23 rfl ?_
    refine w_iload_n E hl 4 dX3_addWire_24 rfl ?_
    refine w_cI (rest := [va_rf (some v18)]) E S hl hM (kX7_init l base D dA F v18 r1 r2 x3) mcX7_init ⟨wd_162, wd_163, rfl⟩ (by rw [hfr, hlo]; decide) rfl (Nat.le_of_ble_eq_true rfl) dX3_addWire_25 rfl (fun σ H locs S hM => ?_)
    refine w_astore (lt' := [(5, .inr (.inl (some v18))), (4, .inl v1), (0, .inr (.inl r0)), (1, .inr (.inl r1)), (2, .inr (.inl r2)), (3, .inl x3)]) E hl dX3_addWire_28 (by decide) rfl (fun ls hl => ?_)
    refine w_aload_n E hl 2 dX3_addWire_30 rfl ?_
    refine w_rR E S hM lk_3_19 rfl dX3_addWire_31 (fun v31 hM => ?_)
    refine w_iload E hl 1 dX3_addWire_34 rfl ?_
    refine w_aload E hl 0 dX3_addWire_36 rfl ?_
    refine w_sQ E S hM ⟨by decide, by decide, by decide, rfl⟩ dX3_addWire_38 (fun σ H locs S hM => ?_)
    refine w_aload_n E hl 2 dX3_addWire_39 rfl ?_
    refine lv_dup E.1 E.2.1 dX3_addWire_40 (x_cat _) ?_
    refine w_rI E S hM lk_3_38 rfl dX3_addWire_41 (fun v41 hM => ?_)
    refine lv_iconst (v := (1 : Int32)) E.1 E.2.1 dX3_addWire_44 (by decide) ?_
    refine lv_iadd E.1 E.2.1 dX3_addWire_45 ?_
    refine w_wI E S hM lk_3_38 rfl (Or.inl rfl) dX3_addWire_46 (fun σ H locs S hM => ?_)
    refine w_aload_n E hl 2 dX3_addWire_49 rfl ?_
    refine w_aload_n E hl 3 dX3_addWire_50 rfl ?_
    refine w_rI E S hM lk_3_47 rfl dX3_addWire_51 (fun v51 hM => ?_)
    refine w_aload_n E hl 4 dX3_addWire_54 rfl ?_
    refine w_rI E S hM lk_3_47 rfl dX3_addWire_55 (fun v55 hM => ?_)
    refine w_cSi (rest := [va_rf r0]) E S hl hM (kX3_cell l base D dA F v51 v55) mcX3_cell ⟨wd_213, wd_214⟩ hfr hlo (by decide) rfl (Nat.le_of_ble_eq_true rfl) dX3_addWire_58 rfl (fun v58 σ H locs S hM => ?_)
    refine w_aload E hl 0 dX3_addWire_61 rfl ?_
    refine w_cVv (rest := []) E S hl hM (kX3_noteStraight l base D dA F r0 v58 (some v18)) mcX3_noteStraight ⟨by decide, rfl, wd_216, wd_218, wp_0⟩ hfr hlo (by decide) rfl (Nat.le_of_ble_eq_true rfl) dX3_addWire_63 rfl (fun σ H locs S hM => ?_)
    refine w_aload_n E hl 2 dX3_addWire_66 rfl ?_
    refine w_aload_n E hl 4 dX3_addWire_67 rfl ?_
    refine w_rI E S hM lk_3_47 rfl dX3_addWire_68 (fun v68 hM => ?_)
    refine w_aload_n E hl 3 dX3_addWire_71 rfl ?_
    refine w_rI E S hM lk_3_47 rfl dX3_addWire_72 (fun v72 hM => ?_)
    refine w_cSi (rest := [va_rf r0]) E S hl hM (kX3_cell l base D dA F v68 v72) mcX3_cell ⟨wd_213, wd_214⟩ hfr hlo (by decide) rfl (Nat.le_of_ble_eq_true rfl) dX3_addWire_75 rfl (fun v75 σ H locs S hM => ?_)
    refine w_aload E hl 0 dX3_addWire_78 rfl ?_
    refine w_cVv (rest := []) E S hl hM (kX3_noteStraight l base D dA F r0 v75 (some v18)) mcX3_noteStraight ⟨by decide, rfl, wd_216, wd_218, wp_0⟩ hfr hlo (by decide) rfl (Nat.le_of_ble_eq_true rfl) dX3_addWire_80 rfl (fun σ H locs S hM => ?_)
    refine w_aload_n E hl 2 dX3_addWire_83 rfl ?_
    refine w_aload_n E hl 3 dX3_addWire_84 rfl ?_
    refine w_rI E S hM lk_3_47 rfl dX3_addWire_85 (fun v85 hM => ?_)
    refine w_aload_n E hl 4 dX3_addWire_88 rfl ?_
    refine w_rI E S hM lk_3_47 rfl dX3_addWire_89 (fun v89 hM => ?_)
    refine w_iload_n E hl 5 dX3_addWire_92 rfl ?_
    refine w_cVv (rest := []) E S hl hM (kX3_shortenBy l base D dA F r0 v85 v89 x3) mcX3_shortenBy ⟨by decide, rfl, wd_223, wd_225, wp_1⟩ hfr hlo (by decide) rfl (Nat.le_of_ble_eq_true rfl) dX3_addWire_93 rfl (fun σ H locs S hM => ?_)
    refine w_aload_n E hl 2 dX3_addWire_96 rfl ?_
    refine w_cVv (rest := []) E S hl hM (kX3_layWays l base D dA F r0) mcX3_layWays ⟨by decide, rfl, wd_234, wd_236, wp_3⟩ hfr hlo (by decide) rfl (Nat.le_of_ble_eq_true rfl) dX3_addWire_97 rfl (fun σ H locs S hM => ?_)
    refine w_iload E hl 1 dX3_addWire_100 rfl ?_
    exact w_iret E S hM hr hk dX3_addWire_102
  · replace hM := x_okF hM c13
    refine lv_iconst (v := (-1 : Int32)) E.1 E.2.1 dX3_addWire_16 (by decide) ?_
    exact w_iret E S hM hr hk dX3_addWire_17
theorem dX3_minutesBetween_0 : decode cX3_minutesBetween 0 = .ok (.aload_n 0, 1) := by decide +kernel
theorem dX3_minutesBetween_1 : decode cX3_minutesBetween 1 = .ok (.aload_n 1, 1) := by decide +kernel
theorem dX3_minutesBetween_2 : decode cX3_minutesBetween 2 = .ok (.getfield 47, 3) := by decide +kernel
theorem dX3_minutesBetween_5 : decode cX3_minutesBetween 5 = .ok (.aload_n 2, 1) := by decide +kernel
theorem dX3_minutesBetween_6 : decode cX3_minutesBetween 6 = .ok (.getfield 47, 3) := by decide +kernel
theorem dX3_minutesBetween_9 : decode cX3_minutesBetween 9 = .ok (.invokevirtual 69, 3) := by decide +kernel
theorem dX3_minutesBetween_12 : decode cX3_minutesBetween 12 = .ok (.ireturn, 1) := by decide +kernel
theorem mcX3_minutesBetween : x_mc yX3_minutesBetween cX3_minutesBetween 3 (some .int) 2 := ⟨wd_261, wd_2, by decide +kernel⟩
set_option maxHeartbeats 4000000 in
set_option maxRecDepth 100000 in
theorem kX3_minutesBetween (l : Launch) (base : Nat) (D : va_G) (dA : Nat → ClassId) (F : Nat) (r0 : Option Nat) (r1 : Option Nat) (r2 : Option Nat) : x_Met l base D dA yX3_minutesBetween cX3_minutesBetween 3 (some .int) 2 44 [va_rf r0, va_rf r1, va_rf r2] (mX3_minutesBetween F r0 r1 r2) (fun x => some (.int x)) := by
  refine x_Met.of [(0, .inr (.inl r0)), (1, .inr (.inl r1)), (2, .inr (.inl r2))] (by decide) (Nat.le_of_ble_eq_true rfl) rfl rfl ?_
  intro p e R s m args below meth c σ a τ ls hfr hlo E hr hk hn S hM hl
  have E : x_E p s m args c cX3_minutesBetween 3 "WireMoney$Net" D dA := E
  unfold mX3_minutesBetween at hM
  refine w_aload_n E hl 0 dX3_minutesBetween_0 rfl ?_
  refine w_aload_n E hl 1 dX3_minutesBetween_1 rfl ?_
  refine w_rI E S hM lk_3_47 rfl dX3_minutesBetween_2 (fun v2 hM => ?_)
  refine w_aload_n E hl 2 dX3_minutesBetween_5 rfl ?_
  refine w_rI E S hM lk_3_47 rfl dX3_minutesBetween_6 (fun v6 hM => ?_)
  refine w_cVi (rest := []) E S hl hM (kX3_leastOf l base D dA F r0 v2 v6) mcX3_leastOf ⟨by decide, rfl, wd_227, wd_229, wp_2⟩ hfr hlo (by decide) rfl (Nat.le_of_ble_eq_true rfl) dX3_minutesBetween_9 rfl (fun v9 σ H locs S hM => ?_)
  exact w_iret E S hM hr hk dX3_minutesBetween_12
theorem dX3_hasWay_0 : decode cX3_hasWay 0 = .ok (.aload_n 0, 1) := by decide +kernel
theorem dX3_hasWay_1 : decode cX3_hasWay 1 = .ok (.aload_n 1, 1) := by decide +kernel
theorem dX3_hasWay_2 : decode cX3_hasWay 2 = .ok (.aload_n 2, 1) := by decide +kernel
theorem dX3_hasWay_3 : decode cX3_hasWay 3 = .ok (.invokevirtual 65, 3) := by decide +kernel
theorem dX3_hasWay_6 : decode cX3_hasWay 6 = .ok (.ldc 33, 2) := by decide +kernel
theorem dX3_hasWay_8 : decode cX3_hasWay 8 = .ok (.if_icmp .ge 7, 3) := by decide +kernel
theorem dX3_hasWay_11 : decode cX3_hasWay 11 = .ok (.iconst 1, 1) := by decide +kernel
theorem dX3_hasWay_12 : decode cX3_hasWay 12 = .ok (.goto 4, 3) := by decide +kernel
theorem dX3_hasWay_15 : decode cX3_hasWay 15 = .ok (.iconst 0, 1) := by decide +kernel
theorem dX3_hasWay_16 : decode cX3_hasWay 16 = .ok (.ireturn, 1) := by decide +kernel
theorem mcX3_hasWay : x_mc yX3_hasWay cX3_hasWay 3 (some .boolean) 2 := ⟨wd_257, wd_2, by decide +kernel⟩
set_option maxHeartbeats 4000000 in
set_option maxRecDepth 100000 in
theorem kX3_hasWay (l : Launch) (base : Nat) (D : va_G) (dA : Nat → ClassId) (F : Nat) (r0 : Option Nat) (r1 : Option Nat) (r2 : Option Nat) : x_Met l base D dA yX3_hasWay cX3_hasWay 3 (some .boolean) 3 66 [va_rf r0, va_rf r1, va_rf r2] (mX3_hasWay F r0 r1 r2) (fun x => some (.int x)) := by
  refine x_Met.of [(0, .inr (.inl r0)), (1, .inr (.inl r1)), (2, .inr (.inl r2))] (by decide) (Nat.le_of_ble_eq_true rfl) rfl rfl ?_
  intro p e R s m args below meth c σ a τ ls hfr hlo E hr hk hn S hM hl
  have E : x_E p s m args c cX3_hasWay 3 "WireMoney$Net" D dA := E
  unfold mX3_hasWay at hM
  refine w_aload_n E hl 0 dX3_hasWay_0 rfl ?_
  refine w_aload_n E hl 1 dX3_hasWay_1 rfl ?_
  refine w_aload_n E hl 2 dX3_hasWay_2 rfl ?_
  refine w_cVi (rest := []) E S hl hM (kX3_minutesBetween l base D dA F r0 r1 r2) mcX3_minutesBetween ⟨by decide, rfl, wd_258, wd_259, wd_260⟩ hfr hlo (by decide) rfl (Nat.le_of_ble_eq_true rfl) dX3_hasWay_3 rfl (fun v3 σ H locs S hM => ?_)
  refine w_ldc (v := (1000000 : Int32)) E wd_30 dX3_hasWay_6 ?_
  refine lv_icmp_ge (tgt := 15) E.1 E.2.1 dX3_hasWay_8 (by decide) (fun c8 => ?_) (fun c8 => ?_)
  · replace hM := x_okT hM c8
    refine lv_iconst (v := (0 : Int32)) E.1 E.2.1 dX3_hasWay_15 (by decide) ?_
    exact w_zretc E S hM (by decide) hr hk dX3_hasWay_16
  · replace hM := x_okF hM c8
    refine lv_iconst (v := (1 : Int32)) E.1 E.2.1 dX3_hasWay_11 (by decide) ?_
    refine lv_goto (tgt := 16) E.1 E.2.1 dX3_hasWay_12 (by decide) ?_
    exact w_zretc E S hM (by decide) hr hk dX3_hasWay_16
theorem dX3_nextWire_0 : decode cX3_nextWire 0 = .ok (.aload_n 1, 1) := by decide +kernel
theorem dX3_nextWire_1 : decode cX3_nextWire 1 = .ok (.ifnull 7, 3) := by decide +kernel
theorem dX3_nextWire_4 : decode cX3_nextWire 4 = .ok (.aload_n 2, 1) := by decide +kernel
theorem dX3_nextWire_5 : decode cX3_nextWire 5 = .ok (.ifnonnull 5, 3) := by decide +kernel
theorem dX3_nextWire_8 : decode cX3_nextWire 8 = .ok (.aconst_null, 1) := by decide +kernel
theorem dX3_nextWire_9 : decode cX3_nextWire 9 = .ok (.areturn, 1) := by decide +kernel
theorem dX3_nextWire_10 : decode cX3_nextWire 10 = .ok (.aload_n 1, 1) := by decide +kernel
theorem dX3_nextWire_11 : decode cX3_nextWire 11 = .ok (.getfield 47, 3) := by decide +kernel
theorem dX3_nextWire_14 : decode cX3_nextWire 14 = .ok (.bipush 10, 2) := by decide +kernel
theorem dX3_nextWire_16 : decode cX3_nextWire 16 = .ok (.imul, 1) := by decide +kernel
theorem dX3_nextWire_17 : decode cX3_nextWire 17 = .ok (.aload_n 2, 1) := by decide +kernel
theorem dX3_nextWire_18 : decode cX3_nextWire 18 = .ok (.getfield 47, 3) := by decide +kernel
theorem dX3_nextWire_21 : decode cX3_nextWire 21 = .ok (.iadd, 1) := by decide +kernel
theorem dX3_nextWire_22 : decode cX3_nextWire 22 = .ok (.istore_n 3, 1) := by decide +kernel
theorem dX3_nextWire_23 : decode cX3_nextWire 23 = .ok (.iload_n 3, 1) := by decide +kernel
theorem dX3_nextWire_24 : decode cX3_nextWire 24 = .ok (.ifCond .lt 21, 3) := by decide +kernel
theorem dX3_nextWire_27 : decode cX3_nextWire 27 = .ok (.iload_n 3, 1) := by decide +kernel
theorem dX3_nextWire_28 : decode cX3_nextWire 28 = .ok (.aload_n 0, 1) := by decide +kernel
theorem dX3_nextWire_29 : decode cX3_nextWire 29 = .ok (.getfield 30, 3) := by decide +kernel
theorem dX3_nextWire_32 : decode cX3_nextWire 32 = .ok (.arraylength, 1) := by decide +kernel
theorem dX3_nextWire_33 : decode cX3_nextWire 33 = .ok (.if_icmp .ge 12, 3) := by decide +kernel
theorem dX3_nextWire_36 : decode cX3_nextWire 36 = .ok (.aload_n 0, 1) := by decide +kernel
theorem dX3_nextWire_37 : decode cX3_nextWire 37 = .ok (.getfield 30, 3) := by decide +kernel
theorem dX3_nextWire_40 : decode cX3_nextWire 40 = .ok (.iload_n 3, 1) := by decide +kernel
theorem dX3_nextWire_41 : decode cX3_nextWire 41 = .ok (.aaload, 1) := by decide +kernel
theorem dX3_nextWire_42 : decode cX3_nextWire 42 = .ok (.goto 4, 3) := by decide +kernel
theorem dX3_nextWire_45 : decode cX3_nextWire 45 = .ok (.aconst_null, 1) := by decide +kernel
theorem dX3_nextWire_46 : decode cX3_nextWire 46 = .ok (.areturn, 1) := by decide +kernel
theorem mcX3_nextWire : x_mc yX3_nextWire cX3_nextWire 4 (some (.object "WireMoney$Wire")) 2 := ⟨wd_443, wd_2, by decide +kernel⟩
set_option maxHeartbeats 4000000 in
set_option maxRecDepth 100000 in
theorem kX3_nextWire (l : Launch) (base : Nat) (D : va_G) (dA : Nat → ClassId) (F : Nat) (r0 : Option Nat) (r1 : Option Nat) (r2 : Option Nat) : x_Met l base D dA yX3_nextWire cX3_nextWire 4 (some (.object "WireMoney$Wire")) 0 0 [va_rf r0, va_rf r1, va_rf r2] (mX3_nextWire F r0 r1 r2) (fun x => some (va_rf x)) := by
  refine x_Met.of [(0, .inr (.inl r0)), (1, .inr (.inl r1)), (2, .inr (.inl r2))] (by decide) (Nat.le_of_ble_eq_true rfl) rfl rfl ?_
  intro p e R s m args below meth c σ a τ ls hfr hlo E hr hk hn S hM hl
  have E : x_E p s m args c cX3_nextWire 4 "WireMoney$Net" D dA := E
  unfold mX3_nextWire at hM
  refine w_aload_n E hl 1 dX3_nextWire_0 rfl ?_
  refine w_ifnull (tgt := 8) E hM dX3_nextWire_1 (by decide) (fun c1 hM => ?_) (fun a1 c1 hM => ?_)
  · skip
    refine w_null E dX3_nextWire_8 ?_
    exact w_aret E S hM hr hk dX3_nextWire_9
  · skip
    refine w_aload_n E hl 2 dX3_nextWire_4 rfl ?_
    refine w_ifnonnull (tgt := 10) E hM dX3_nextWire_5 (by decide) (fun c5 hM => ?_) (fun a5 c5 hM => ?_)
    · skip
      refine w_null E dX3_nextWire_8 ?_
      exact w_aret E S hM hr hk dX3_nextWire_9
    · skip
      refine w_aload_n E hl 1 dX3_nextWire_10 rfl ?_
      refine w_rI E S hM lk_3_47 rfl dX3_nextWire_11 (fun v11 hM => ?_)
      refine lv_bipush (v := (10 : Int32)) E.1 E.2.1 dX3_nextWire_14 (by decide) ?_
      refine lv_imul E.1 E.2.1 dX3_nextWire_16 ?_
      refine w_aload_n E hl 2 dX3_nextWire_17 rfl ?_
      refine w_rI E S hM lk_3_47 rfl dX3_nextWire_18 (fun v18 hM => ?_)
      refine lv_iadd E.1 E.2.1 dX3_nextWire_21 ?_
      refine w_nm hM (fun v22 hM => ?_)
      refine w_istore_n (lt' := [(3, .inl v22), (0, .inr (.inl r0)), (1, .inr (.inl r1)), (2, .inr (.inl r2))]) E hl dX3_nextWire_22 (by decide) rfl (fun ls hl => ?_)
      refine w_iload_n E hl 0 dX3_nextWire_23 rfl ?_
      refine lv_if_lt (tgt := 45) E.1 E.2.1 dX3_nextWire_24 (by decide) (fun c24 => ?_) (fun c24 => ?_)
      · replace hM := x_okT hM c24
        refine w_null E dX3_nextWire_45 ?_
        exact w_aret E S hM hr hk dX3_nextWire_46
      · replace hM := x_okF hM c24
        refine w_iload_n E hl 0 dX3_nextWire_27 rfl ?_
        refine w_aload_n E hl 1 dX3_nextWire_28 rfl ?_
        refine w_rR E S hM lk_3_30 rfl dX3_nextWire_29 (fun v29 hM => ?_)
        refine w_aL E S hM (by decide) dX3_nextWire_32 (fun v32 hM => ?_)
        refine lv_icmp_ge (tgt := 45) E.1 E.2.1 dX3_nextWire_33 (by decide) (fun c33 => ?_) (fun c33 => ?_)
        · replace hM := x_okT hM c33
          refine w_null E dX3_nextWire_45 ?_
          exact w_aret E S hM hr hk dX3_nextWire_46
        · replace hM := x_okF hM c33
          refine w_aload_n E hl 1 dX3_nextWire_36 rfl ?_
          refine w_rR E S hM lk_3_30 rfl dX3_nextWire_37 (fun v37 hM => ?_)
          refine w_iload_n E hl 0 dX3_nextWire_40 rfl ?_
          refine w_aQ E S hM (by decide) dX3_nextWire_41 (fun v41 hM => ?_)
          refine lv_goto (tgt := 46) E.1 E.2.1 dX3_nextWire_42 (by decide) ?_
          exact w_aret E S hM hr hk dX3_nextWire_46
theorem dX7_touches_0 : decode cX7_touches 0 = .ok (.aload_n 0, 1) := by decide +kernel
theorem dX7_touches_1 : decode cX7_touches 1 = .ok (.getfield 12, 3) := by decide +kernel
theorem dX7_touches_4 : decode cX7_touches 4 = .ok (.getfield 31, 3) := by decide +kernel
theorem dX7_touches_7 : decode cX7_touches 7 = .ok (.aload_n 1, 1) := by decide +kernel
theorem dX7_touches_8 : decode cX7_touches 8 = .ok (.if_acmp .eq 14, 3) := by decide +kernel
theorem dX7_touches_11 : decode cX7_touches 11 = .ok (.aload_n 0, 1) := by decide +kernel
theorem dX7_touches_12 : decode cX7_touches 12 = .ok (.getfield 18, 3) := by decide +kernel
theorem dX7_touches_15 : decode cX7_touches 15 = .ok (.getfield 31, 3) := by decide +kernel
theorem dX7_touches_18 : decode cX7_touches 18 = .ok (.aload_n 1, 1) := by decide +kernel
theorem dX7_touches_19 : decode cX7_touches 19 = .ok (.if_acmp .ne 7, 3) := by decide +kernel
theorem dX7_touches_22 : decode cX7_touches 22 = .ok (.iconst 1, 1) := by decide +kernel
theorem dX7_touches_23 : decode cX7_touches 23 = .ok (.goto 4, 3) := by decide +kernel
theorem dX7_touches_26 : decode cX7_touches 26 = .ok (.iconst 0, 1) := by decide +kernel
theorem dX7_touches_27 : decode cX7_touches 27 = .ok (.ireturn, 1) := by decide +kernel
theorem mcX7_touches : x_mc yX7_touches cX7_touches 2 (some .boolean) 1 := ⟨wd_589, wd_6, by decide +kernel⟩
set_option maxHeartbeats 4000000 in
set_option maxRecDepth 100000 in
theorem kX7_touches (l : Launch) (base : Nat) (D : va_G) (dA : Nat → ClassId) (F : Nat) (r0 : Option Nat) (r1 : Option Nat) : x_Met l base D dA yX7_touches cX7_touches 2 (some .boolean) 0 0 [va_rf r0, va_rf r1] (mX7_touches F r0 r1) (fun x => some (.int x)) := by
  refine x_Met.of [(0, .inr (.inl r0)), (1, .inr (.inl r1))] (by decide) (Nat.le_of_ble_eq_true rfl) rfl rfl ?_
  intro p e R s m args below meth c σ a τ ls hfr hlo E hr hk hn S hM hl
  have E : x_E p s m args c cX7_touches 2 "WireMoney$Wire" D dA := E
  unfold mX7_touches at hM
  refine w_aload_n E hl 0 dX7_touches_0 rfl ?_
  refine w_rR E S hM lk_7_12 rfl dX7_touches_1 (fun v1 hM => ?_)
  refine w_rR E S hM lk_7_31 rfl dX7_touches_4 (fun v4 hM => ?_)
  refine w_aload_n E hl 1 dX7_touches_7 rfl ?_
  refine lv_acmp_eq (tgt := 22) E.1 E.2.1 dX7_touches_8 (by decide) (fun c8 => ?_) (fun c8 => ?_)
  · replace hM := x_okT hM c8
    refine lv_iconst (v := (1 : Int32)) E.1 E.2.1 dX7_touches_22 (by decide) ?_
    refine lv_goto (tgt := 27) E.1 E.2.1 dX7_touches_23 (by decide) ?_
    exact w_zretc E S hM (by decide) hr hk dX7_touches_27
  · replace hM := x_okF hM c8
    refine w_aload_n E hl 0 dX7_touches_11 rfl ?_
    refine w_rR E S hM lk_7_18 rfl dX7_touches_12 (fun v12 hM => ?_)
    refine w_rR E S hM lk_7_31 rfl dX7_touches_15 (fun v15 hM => ?_)
    refine w_aload_n E hl 1 dX7_touches_18 rfl ?_
    refine lv_acmp_ne (tgt := 26) E.1 E.2.1 dX7_touches_19 (by decide) (fun c19 => ?_) (fun c19 => ?_)
    · replace hM := x_okF hM c19
      refine lv_iconst (v := (0 : Int32)) E.1 E.2.1 dX7_touches_26 (by decide) ?_
      exact w_zretc E S hM (by decide) hr hk dX7_touches_27
    · replace hM := x_okT hM c19
      refine lv_iconst (v := (1 : Int32)) E.1 E.2.1 dX7_touches_22 (by decide) ?_
      refine lv_goto (tgt := 27) E.1 E.2.1 dX7_touches_23 (by decide) ?_
      exact w_zretc E S hM (by decide) hr hk dX7_touches_27
theorem dX7_queueFrom_0 : decode cX7_queueFrom 0 = .ok (.aload_n 0, 1) := by decide +kernel
theorem dX7_queueFrom_1 : decode cX7_queueFrom 1 = .ok (.getfield 12, 3) := by decide +kernel
theorem dX7_queueFrom_4 : decode cX7_queueFrom 4 = .ok (.getfield 31, 3) := by decide +kernel
theorem dX7_queueFrom_7 : decode cX7_queueFrom 7 = .ok (.aload_n 1, 1) := by decide +kernel
theorem dX7_queueFrom_8 : decode cX7_queueFrom 8 = .ok (.if_acmp .ne 10, 3) := by decide +kernel
theorem dX7_queueFrom_11 : decode cX7_queueFrom 11 = .ok (.aload_n 0, 1) := by decide +kernel
theorem dX7_queueFrom_12 : decode cX7_queueFrom 12 = .ok (.getfield 12, 3) := by decide +kernel
theorem dX7_queueFrom_15 : decode cX7_queueFrom 15 = .ok (.goto 7, 3) := by decide +kernel
theorem dX7_queueFrom_18 : decode cX7_queueFrom 18 = .ok (.aload_n 0, 1) := by decide +kernel
theorem dX7_queueFrom_19 : decode cX7_queueFrom 19 = .ok (.getfield 18, 3) := by decide +kernel
theorem dX7_queueFrom_22 : decode cX7_queueFrom 22 = .ok (.areturn, 1) := by decide +kernel
theorem mcX7_queueFrom : x_mc yX7_queueFrom cX7_queueFrom 2 (some (.object "WireMoney$Queue")) 1 := ⟨wd_447, wd_6, by decide +kernel⟩
set_option maxHeartbeats 4000000 in
set_option maxRecDepth 100000 in
theorem kX7_queueFrom (l : Launch) (base : Nat) (D : va_G) (dA : Nat → ClassId) (F : Nat) (r0 : Option Nat) (r1 : Option Nat) : x_Met l base D dA yX7_queueFrom cX7_queueFrom 2 (some (.object "WireMoney$Queue")) 0 0 [va_rf r0, va_rf r1] (mX7_queueFrom F r0 r1) (fun x => some (va_rf x)) := by
  refine x_Met.of [(0, .inr (.inl r0)), (1, .inr (.inl r1))] (by decide) (Nat.le_of_ble_eq_true rfl) rfl rfl ?_
  intro p e R s m args below meth c σ a τ ls hfr hlo E hr hk hn S hM hl
  have E : x_E p s m args c cX7_queueFrom 2 "WireMoney$Wire" D dA := E
  unfold mX7_queueFrom at hM
  refine w_aload_n E hl 0 dX7_queueFrom_0 rfl ?_
  refine w_rR E S hM lk_7_12 rfl dX7_queueFrom_1 (fun v1 hM => ?_)
  refine w_rR E S hM lk_7_31 rfl dX7_queueFrom_4 (fun v4 hM => ?_)
  refine w_aload_n E hl 1 dX7_queueFrom_7 rfl ?_
  refine lv_acmp_ne (tgt := 18) E.1 E.2.1 dX7_queueFrom_8 (by decide) (fun c8 => ?_) (fun c8 => ?_)
  · replace hM := x_okF hM c8
    refine w_aload_n E hl 0 dX7_queueFrom_18 rfl ?_
    refine w_rR E S hM lk_7_18 rfl dX7_queueFrom_19 (fun v19 hM => ?_)
    exact w_aret E S hM hr hk dX7_queueFrom_22
  · replace hM := x_okT hM c8
    refine w_aload_n E hl 0 dX7_queueFrom_11 rfl ?_
    refine w_rR E S hM lk_7_12 rfl dX7_queueFrom_12 (fun v12 hM => ?_)
    refine lv_goto (tgt := 22) E.1 E.2.1 dX7_queueFrom_15 (by decide) ?_
    exact w_aret E S hM hr hk dX7_queueFrom_22
theorem dX3_queuedAt_0 : decode cX3_queuedAt 0 = .ok (.iconst 0, 1) := by decide +kernel
theorem dX3_queuedAt_1 : decode cX3_queuedAt 1 = .ok (.istore_n 2, 1) := by decide +kernel
theorem dX3_queuedAt_2 : decode cX3_queuedAt 2 = .ok (.iconst 0, 1) := by decide +kernel
theorem dX3_queuedAt_3 : decode cX3_queuedAt 3 = .ok (.istore_n 3, 1) := by decide +kernel
theorem dX3_queuedAt_4 : decode cX3_queuedAt 4 = .ok (.iload_n 3, 1) := by decide +kernel
theorem dX3_queuedAt_5 : decode cX3_queuedAt 5 = .ok (.aload_n 0, 1) := by decide +kernel
theorem dX3_queuedAt_6 : decode cX3_queuedAt 6 = .ok (.getfield 38, 3) := by decide +kernel
theorem dX3_queuedAt_9 : decode cX3_queuedAt 9 = .ok (.if_icmp .ge 42, 3) := by decide +kernel
theorem dX3_queuedAt_12 : decode cX3_queuedAt 12 = .ok (.aload_n 0, 1) := by decide +kernel
theorem dX3_queuedAt_13 : decode cX3_queuedAt 13 = .ok (.iload_n 3, 1) := by decide +kernel
theorem dX3_queuedAt_14 : decode cX3_queuedAt 14 = .ok (.invokevirtual 72, 3) := by decide +kernel
theorem dX3_queuedAt_17 : decode cX3_queuedAt 17 = .ok (.astore 4, 2) := by decide +kernel
theorem dX3_queuedAt_19 : decode cX3_queuedAt 19 = .ok (.aload 4, 2) := by decide +kernel
theorem dX3_queuedAt_21 : decode cX3_queuedAt 21 = .ok (.ifnull 24, 3) := by decide +kernel
theorem dX3_queuedAt_24 : decode cX3_queuedAt 24 = .ok (.aload 4, 2) := by decide +kernel
theorem dX3_queuedAt_26 : decode cX3_queuedAt 26 = .ok (.aload_n 1, 1) := by decide +kernel
theorem dX3_queuedAt_27 : decode cX3_queuedAt 27 = .ok (.invokevirtual 76, 3) := by decide +kernel
theorem dX3_queuedAt_30 : decode cX3_queuedAt 30 = .ok (.ifCond .eq 15, 3) := by decide +kernel
theorem dX3_queuedAt_33 : decode cX3_queuedAt 33 = .ok (.iload_n 2, 1) := by decide +kernel
theorem dX3_queuedAt_34 : decode cX3_queuedAt 34 = .ok (.aload 4, 2) := by decide +kernel
theorem dX3_queuedAt_36 : decode cX3_queuedAt 36 = .ok (.aload_n 1, 1) := by decide +kernel
theorem dX3_queuedAt_37 : decode cX3_queuedAt 37 = .ok (.invokevirtual 80, 3) := by decide +kernel
theorem dX3_queuedAt_40 : decode cX3_queuedAt 40 = .ok (.getfield 84, 3) := by decide +kernel
theorem dX3_queuedAt_43 : decode cX3_queuedAt 43 = .ok (.iadd, 1) := by decide +kernel
theorem dX3_queuedAt_44 : decode cX3_queuedAt 44 = .ok (.istore_n 2, 1) := by decide +kernel
theorem dX3_queuedAt_45 : decode cX3_queuedAt 45 = .ok (.iinc 3 1, 3) := by decide +kernel
theorem dX3_queuedAt_48 : decode cX3_queuedAt 48 = .ok (.goto (-44), 3) := by decide +kernel
theorem dX3_queuedAt_51 : decode cX3_queuedAt 51 = .ok (.iload_n 2, 1) := by decide +kernel
theorem dX3_queuedAt_52 : decode cX3_queuedAt 52 = .ok (.ireturn, 1) := by decide +kernel
set_option maxHeartbeats 4000000 in
set_option maxRecDepth 100000 in
theorem bX3_queuedAt_4 {p : Program} {l : Launch} {e : Env} {R : Room} {s : State} {m : MethodId} {args : Array Value} {below : List Frame} {meth : Method} {c : Code} {base : Nat} {D : va_G} {dA : Nat → ClassId} {σ0 : PH} {z : Int32 × PH} {F : Nat} (E : x_E p s m args c cX3_queuedAt 5 "WireMoney$Net" D dA) (hr : meth.sig.returnType = (some .int)) (hk : meth.locks = false) (hfr : R.frames = 1) (hlo : R.locals = 21) : ∀ (n : Nat) (y0 : Option Nat) (y1 : Option Nat) (y2 : Int32) (y3 : Int32) (σ : PH) (H : Heap) (locs : List Loc) (ls : Array Slot), x_S base D dA R s σ0 z.2 σ H locs → x_rn (mX3_queuedAt_4 F n y0 y1 y2 y3) σ = some z → x_lv ls 5 [(0, .inr (.inl y0)), (1, .inr (.inl y1)), (2, .inl y2), (3, .inl y3)] → W p l e R s m args below meth c H locs (x_N σ - x_N σ0) (x_U σ - x_U σ0) (x_end below args s base D dA (fun x => some (.int x)) σ0 z) (F0 m 4 ls []) := by
  intro n
  induction n with
  | zero =>
    intro y0 y1 y2 y3 σ H locs ls S hM hl
    cases hM
  | succ n ih =>
    intro y0 y1 y2 y3 σ H locs ls S hM hl
    rw [mX3_queuedAt_4] at hM
    refine w_iload_n E hl 3 dX3_queuedAt_4 rfl ?_
    refine w_aload_n E hl 0 dX3_queuedAt_5 rfl ?_
    refine w_rI E S hM lk_3_38 rfl dX3_queuedAt_6 (fun v6 hM => ?_)
    refine lv_icmp_ge (tgt := 51) E.1 E.2.1 dX3_queuedAt_9 (by decide) (fun c9 => ?_) (fun c9 => ?_)
    · replace hM := x_okT hM c9
      refine w_iload_n E hl 2 dX3_queuedAt_51 rfl ?_
      exact w_iret E S hM hr hk dX3_queuedAt_52
    · replace hM := x_okF hM c9
      refine w_aload_n E hl 0 dX3_queuedAt_12 rfl ?_
      refine w_iload_n E hl 3 dX3_queuedAt_13 rfl ?_
      refine w_cVq (rest := []) E S hl hM (kX3_findWire l base D dA F y0 y3) mcX3_findWire ⟨by decide, rfl, wd_585, wd_247, wd_248⟩ hfr hlo (by decide) rfl (Nat.le_of_ble_eq_true rfl) dX3_queuedAt_14 rfl (fun v14 σ H locs S hM => ?_)
      refine w_astore (lt' := [(4, .inr (.inl v14)), (0, .inr (.inl y0)), (1, .inr (.inl y1)), (2, .inl y2), (3, .inl y3)]) E hl dX3_queuedAt_17 (by decide) rfl (fun ls hl => ?_)
      refine w_aload E hl 0 dX3_queuedAt_19 rfl ?_
      refine w_ifnull (tgt := 45) E hM dX3_queuedAt_21 (by decide) (fun c21 hM => ?_) (fun a21 c21 hM => ?_)
      · skip
        refine w_iincN (ltf := fun v45 => [(3, .inl v45), (4, .inr (.inl v14)), (0, .inr (.inl y0)), (1, .inr (.inl y1)), (2, .inl y2)]) E hl 4 hM dX3_queuedAt_45 rfl (by decide) (by decide) (fun _ => rfl) (fun v45 ls hM hl => ?_)
        refine lv_goto (tgt := 4) E.1 E.2.1 dX3_queuedAt_48 (by decide) ?_
        exact ih y0 y1 y2 v45 _ _ _ _ S hM (x_lv_sub hl [2, 3, 4, 0] rfl)
      · skip
        refine w_aload E hl 0 dX3_queuedAt_24 rfl ?_
        refine w_aload_n E hl 2 dX3_queuedAt_26 rfl ?_
        refine w_cVi (rest := []) E S hl hM (kX7_touches l base D dA F v14 y1) mcX7_touches ⟨by decide, rfl, wd_586, wd_587, wd_588⟩ hfr hlo (by decide) rfl (Nat.le_of_ble_eq_true rfl) dX3_queuedAt_27 rfl (fun v27 σ H locs S hM => ?_)
        refine lv_if_eq (tgt := 45) E.1 E.2.1 dX3_queuedAt_30 (by decide) (fun c30 => ?_) (fun c30 => ?_)
        · replace hM := x_okT hM c30
          refine w_iincN (ltf := fun v45 => [(3, .inl v45), (4, .inr (.inl v14)), (0, .inr (.inl y0)), (1, .inr (.inl y1)), (2, .inl y2)]) E hl 4 hM dX3_queuedAt_45 rfl (by decide) (by decide) (fun _ => rfl) (fun v45 ls hM hl => ?_)
          refine lv_goto (tgt := 4) E.1 E.2.1 dX3_queuedAt_48 (by decide) ?_
          exact ih y0 y1 y2 v45 _ _ _ _ S hM (x_lv_sub hl [2, 3, 4, 0] rfl)
        · replace hM := x_okF hM c30
          refine w_iload_n E hl 3 dX3_queuedAt_33 rfl ?_
          refine w_aload E hl 0 dX3_queuedAt_34 rfl ?_
          refine w_aload_n E hl 2 dX3_queuedAt_36 rfl ?_
          refine w_cVq (rest := [.int y2]) E S hl hM (kX7_queueFrom l base D dA F v14 y1) mcX7_queueFrom ⟨by decide, rfl, wd_590, wd_445, wd_446⟩ hfr hlo (by decide) rfl (Nat.le_of_ble_eq_true rfl) dX3_queuedAt_37 rfl (fun v37 σ H locs S hM => ?_)
          refine w_rI E S hM lk_3_84 rfl dX3_queuedAt_40 (fun v40 hM => ?_)
          refine lv_iadd E.1 E.2.1 dX3_queuedAt_43 ?_
          refine w_nm hM (fun v44 hM => ?_)
          refine w_istore_n (lt' := [(2, .inl v44), (4, .inr (.inl v14)), (0, .inr (.inl y0)), (1, .inr (.inl y1)), (3, .inl y3)]) E hl dX3_queuedAt_44 (by decide) rfl (fun ls hl => ?_)
          refine w_iincN (ltf := fun v45 => [(3, .inl v45), (2, .inl v44), (4, .inr (.inl v14)), (0, .inr (.inl y0)), (1, .inr (.inl y1))]) E hl 4 hM dX3_queuedAt_45 rfl (by decide) (by decide) (fun _ => rfl) (fun v45 ls hM hl => ?_)
          refine lv_goto (tgt := 4) E.1 E.2.1 dX3_queuedAt_48 (by decide) ?_
          exact ih y0 y1 v44 v45 _ _ _ _ S hM (x_lv_sub hl [3, 4, 1, 0] rfl)
theorem mcX3_queuedAt : x_mc yX3_queuedAt cX3_queuedAt 5 (some .int) 1 := ⟨wd_584, wd_2, by decide +kernel⟩
set_option maxHeartbeats 4000000 in
set_option maxRecDepth 100000 in
theorem kX3_queuedAt (l : Launch) (base : Nat) (D : va_G) (dA : Nat → ClassId) (F : Nat) (r0 : Option Nat) (r1 : Option Nat) : x_Met l base D dA yX3_queuedAt cX3_queuedAt 5 (some .int) 1 21 [va_rf r0, va_rf r1] (mX3_queuedAt F r0 r1) (fun x => some (.int x)) := by
  refine x_Met.of [(0, .inr (.inl r0)), (1, .inr (.inl r1))] (by decide) (Nat.le_of_ble_eq_true rfl) rfl rfl ?_
  intro p e R s m args below meth c σ a τ ls hfr hlo E hr hk hn S hM hl
  have E : x_E p s m args c cX3_queuedAt 5 "WireMoney$Net" D dA := E
  unfold mX3_queuedAt at hM
  refine lv_iconst (v := (0 : Int32)) E.1 E.2.1 dX3_queuedAt_0 (by decide) ?_
  refine w_istore_n (lt' := [(2, .inl (0 : Int32)), (0, .inr (.inl r0)), (1, .inr (.inl r1))]) E hl dX3_queuedAt_1 (by decide) rfl (fun ls hl => ?_)
  refine lv_iconst (v := (0 : Int32)) E.1 E.2.1 dX3_queuedAt_2 (by decide) ?_
  refine w_istore_n (lt' := [(3, .inl (0 : Int32)), (2, .inl (0 : Int32)), (0, .inr (.inl r0)), (1, .inr (.inl r1))]) E hl dX3_queuedAt_3 (by decide) rfl (fun ls hl => ?_)
  exact bX3_queuedAt_4 E hr hk hfr hlo F r0 r1 (0 : Int32) (0 : Int32) _ _ _ _ S hM (x_lv_sub hl [2, 3, 1, 0] rfl)
theorem dX4_init_0 : decode cX4_init 0 = .ok (.aload_n 0, 1) := by decide +kernel
theorem dX4_init_1 : decode cX4_init 1 = .ok (.invokespecial 3, 3) := by decide +kernel
theorem dX4_init_4 : decode cX4_init 4 = .ok (.aload_n 0, 1) := by decide +kernel
theorem dX4_init_5 : decode cX4_init 5 = .ok (.iload_n 1, 1) := by decide +kernel
theorem dX4_init_6 : decode cX4_init 6 = .ok (.putfield 9, 3) := by decide +kernel
theorem dX4_init_9 : decode cX4_init 9 = .ok (.aload_n 0, 1) := by decide +kernel
theorem dX4_init_10 : decode cX4_init 10 = .ok (.aload_n 2, 1) := by decide +kernel
theorem dX4_init_11 : decode cX4_init 11 = .ok (.putfield 15, 3) := by decide +kernel
theorem dX4_init_14 : decode cX4_init 14 = .ok (.aload_n 0, 1) := by decide +kernel
theorem dX4_init_15 : decode cX4_init 15 = .ok (.aload_n 3, 1) := by decide +kernel
theorem dX4_init_16 : decode cX4_init 16 = .ok (.putfield 19, 3) := by decide +kernel
theorem dX4_init_19 : decode cX4_init 19 = .ok (.aload_n 0, 1) := by decide +kernel
theorem dX4_init_20 : decode cX4_init 20 = .ok (.iload 4, 2) := by decide +kernel
theorem dX4_init_22 : decode cX4_init 22 = .ok (.putfield 22, 3) := by decide +kernel
theorem dX4_init_25 : decode cX4_init 25 = .ok (.aload_n 0, 1) := by decide +kernel
theorem dX4_init_26 : decode cX4_init 26 = .ok (.iload 5, 2) := by decide +kernel
theorem dX4_init_28 : decode cX4_init 28 = .ok (.putfield 25, 3) := by decide +kernel
theorem dX4_init_31 : decode cX4_init 31 = .ok (.aload_n 0, 1) := by decide +kernel
theorem dX4_init_32 : decode cX4_init 32 = .ok (.iconst (-1), 1) := by decide +kernel
theorem dX4_init_33 : decode cX4_init 33 = .ok (.putfield 28, 3) := by decide +kernel
theorem dX4_init_36 : decode cX4_init 36 = .ok (.return_, 1) := by decide +kernel
theorem mcX4_init : x_mc yX4_init cX4_init 6 none 5 := ⟨wd_302, wd_9, by decide +kernel⟩
set_option maxHeartbeats 4000000 in
set_option maxRecDepth 100000 in
theorem kX4_init (l : Launch) (base : Nat) (D : va_G) (dA : Nat → ClassId) (F : Nat) (r0 : Nat) (x1 : Int32) (r2 : Option Nat) (r3 : Option Nat) (x4 : Int32) (x5 : Int32) : x_Met l base D dA yX4_init cX4_init 6 none 1 21 [va_rf (some r0), .int x1, va_rf r2, va_rf r3, .int x4, .int x5] (mX4_init F (some r0) x1 r2 r3 x4 x5) (fun _ => none) := by
  refine x_Met.of [(0, .inr (.inl (some r0))), (1, .inl x1), (2, .inr (.inl r2)), (3, .inr (.inl r3)), (4, .inl x4), (5, .inl x5)] (by decide) (Nat.le_of_ble_eq_true rfl) rfl rfl ?_
  intro p e R s m args below meth c σ a τ ls hfr hlo E hr hk hn S hM hl
  have E : x_E p s m args c cX4_init 6 "WireMoney$Order" D dA := E
  unfold mX4_init at hM
  refine w_aload_n E hl 0 dX4_init_0 rfl ?_
  refine w_obj E hl ⟨wd_303, wd_18, wd_19⟩ (by rw [hfr, hlo]; decide) (Nat.le_of_ble_eq_true rfl) dX4_init_1 ?_
  refine w_aload_n E hl 0 dX4_init_4 rfl ?_
  refine w_iload_n E hl 1 dX4_init_5 rfl ?_
  refine w_wI E S hM lk_4_9 rfl (Or.inr ⟨hn, rfl, rfl⟩) dX4_init_6 (fun σ H locs S hM => ?_)
  refine w_aload_n E hl 0 dX4_init_9 rfl ?_
  refine w_aload_n E hl 2 dX4_init_10 rfl ?_
  refine w_wR E S hM lk_4_15 rfl (Or.inr ⟨hn, rfl, rfl⟩) dX4_init_11 (fun σ H locs S hM => ?_)
  refine w_aload_n E hl 0 dX4_init_14 rfl ?_
  refine w_aload_n E hl 3 dX4_init_15 rfl ?_
  refine w_wR E S hM lk_4_19 rfl (Or.inr ⟨hn, rfl, rfl⟩) dX4_init_16 (fun σ H locs S hM => ?_)
  refine w_aload_n E hl 0 dX4_init_19 rfl ?_
  refine w_iload E hl 4 dX4_init_20 rfl ?_
  refine w_wI E S hM lk_4_22 rfl (Or.inr ⟨hn, rfl, rfl⟩) dX4_init_22 (fun σ H locs S hM => ?_)
  refine w_aload_n E hl 0 dX4_init_25 rfl ?_
  refine w_iload E hl 5 dX4_init_26 rfl ?_
  refine w_wI E S hM lk_4_25 rfl (Or.inr ⟨hn, rfl, rfl⟩) dX4_init_28 (fun σ H locs S hM => ?_)
  refine w_aload_n E hl 0 dX4_init_31 rfl ?_
  refine lv_iconst (v := (-1 : Int32)) E.1 E.2.1 dX4_init_32 (by decide) ?_
  refine w_wI E S hM lk_4_28 rfl (Or.inl rfl) dX4_init_33 (fun σ H locs S hM => ?_)
  exact w_vret E S hM hr hk dX4_init_36
theorem dX4_isAwaited_0 : decode cX4_isAwaited 0 = .ok (.aload_n 0, 1) := by decide +kernel
theorem dX4_isAwaited_1 : decode cX4_isAwaited 1 = .ok (.getfield 31, 3) := by decide +kernel
theorem dX4_isAwaited_4 : decode cX4_isAwaited 4 = .ok (.ifCond .eq 21, 3) := by decide +kernel
theorem dX4_isAwaited_7 : decode cX4_isAwaited 7 = .ok (.aload_n 0, 1) := by decide +kernel
theorem dX4_isAwaited_8 : decode cX4_isAwaited 8 = .ok (.getfield 35, 3) := by decide +kernel
theorem dX4_isAwaited_11 : decode cX4_isAwaited 11 = .ok (.ifCond .ne 14, 3) := by decide +kernel
theorem dX4_isAwaited_14 : decode cX4_isAwaited 14 = .ok (.aload_n 0, 1) := by decide +kernel
theorem dX4_isAwaited_15 : decode cX4_isAwaited 15 = .ok (.getfield 38, 3) := by decide +kernel
theorem dX4_isAwaited_18 : decode cX4_isAwaited 18 = .ok (.ifCond .ne 7, 3) := by decide +kernel
theorem dX4_isAwaited_21 : decode cX4_isAwaited 21 = .ok (.iconst 1, 1) := by decide +kernel
theorem dX4_isAwaited_22 : decode cX4_isAwaited 22 = .ok (.goto 4, 3) := by decide +kernel
theorem dX4_isAwaited_25 : decode cX4_isAwaited 25 = .ok (.iconst 0, 1) := by decide +kernel
theorem dX4_isAwaited_26 : decode cX4_isAwaited 26 = .ok (.ireturn, 1) := by decide +kernel
theorem mcX4_isAwaited : x_mc yX4_isAwaited cX4_isAwaited 1 (some .boolean) 0 := ⟨wd_579, wd_9, by decide +kernel⟩
set_option maxHeartbeats 4000000 in
set_option maxRecDepth 100000 in
theorem kX4_isAwaited (l : Launch) (base : Nat) (D : va_G) (dA : Nat → ClassId) (F : Nat) (r0 : Option Nat) : x_Met l base D dA yX4_isAwaited cX4_isAwaited 1 (some .boolean) 0 0 [va_rf r0] (mX4_isAwaited F r0) (fun x => some (.int x)) := by
  refine x_Met.of [(0, .inr (.inl r0))] (by decide) (Nat.le_of_ble_eq_true rfl) rfl rfl ?_
  intro p e R s m args below meth c σ a τ ls hfr hlo E hr hk hn S hM hl
  have E : x_E p s m args c cX4_isAwaited 1 "WireMoney$Order" D dA := E
  unfold mX4_isAwaited at hM
  refine w_aload_n E hl 0 dX4_isAwaited_0 rfl ?_
  refine w_rI E S hM lk_4_31 rfl dX4_isAwaited_1 (fun v1 hM => ?_)
  refine lv_if_eq (tgt := 25) E.1 E.2.1 dX4_isAwaited_4 (by decide) (fun c4 => ?_) (fun c4 => ?_)
  · replace hM := x_okT hM c4
    refine lv_iconst (v := (0 : Int32)) E.1 E.2.1 dX4_isAwaited_25 (by decide) ?_
    exact w_zretc E S hM (by decide) hr hk dX4_isAwaited_26
  · replace hM := x_okF hM c4
    refine w_aload_n E hl 0 dX4_isAwaited_7 rfl ?_
    refine w_rI E S hM lk_4_35 rfl dX4_isAwaited_8 (fun v8 hM => ?_)
    refine lv_if_ne (tgt := 25) E.1 E.2.1 dX4_isAwaited_11 (by decide) (fun c11 => ?_) (fun c11 => ?_)
    · replace hM := x_okF hM c11
      refine lv_iconst (v := (0 : Int32)) E.1 E.2.1 dX4_isAwaited_25 (by decide) ?_
      exact w_zretc E S hM (by decide) hr hk dX4_isAwaited_26
    · replace hM := x_okT hM c11
      refine w_aload_n E hl 0 dX4_isAwaited_14 rfl ?_
      refine w_rI E S hM lk_4_38 rfl dX4_isAwaited_15 (fun v15 hM => ?_)
      refine lv_if_ne (tgt := 25) E.1 E.2.1 dX4_isAwaited_18 (by decide) (fun c18 => ?_) (fun c18 => ?_)
      · replace hM := x_okF hM c18
        refine lv_iconst (v := (0 : Int32)) E.1 E.2.1 dX4_isAwaited_25 (by decide) ?_
        exact w_zretc E S hM (by decide) hr hk dX4_isAwaited_26
      · replace hM := x_okT hM c18
        refine lv_iconst (v := (1 : Int32)) E.1 E.2.1 dX4_isAwaited_21 (by decide) ?_
        refine lv_goto (tgt := 26) E.1 E.2.1 dX4_isAwaited_22 (by decide) ?_
        exact w_zretc E S hM (by decide) hr hk dX4_isAwaited_26
theorem dX5_add_0 : decode cX5_add 0 = .ok (.aload_n 0, 1) := by decide +kernel
theorem dX5_add_1 : decode cX5_add 1 = .ok (.getfield 16, 3) := by decide +kernel
theorem dX5_add_4 : decode cX5_add 4 = .ok (.ifnonnull 11, 3) := by decide +kernel
theorem dX5_add_7 : decode cX5_add 7 = .ok (.aload_n 0, 1) := by decide +kernel
theorem dX5_add_8 : decode cX5_add 8 = .ok (.aload_n 1, 1) := by decide +kernel
theorem dX5_add_9 : decode cX5_add 9 = .ok (.putfield 20, 3) := by decide +kernel
theorem dX5_add_12 : decode cX5_add 12 = .ok (.goto 11, 3) := by decide +kernel
theorem dX5_add_15 : decode cX5_add 15 = .ok (.aload_n 0, 1) := by decide +kernel
theorem dX5_add_16 : decode cX5_add 16 = .ok (.getfield 16, 3) := by decide +kernel
theorem dX5_add_19 : decode cX5_add 19 = .ok (.aload_n 1, 1) := by decide +kernel
theorem dX5_add_20 : decode cX5_add 20 = .ok (.putfield 23, 3) := by decide +kernel
theorem dX5_add_23 : decode cX5_add 23 = .ok (.aload_n 0, 1) := by decide +kernel
theorem dX5_add_24 : decode cX5_add 24 = .ok (.aload_n 1, 1) := by decide +kernel
theorem dX5_add_25 : decode cX5_add 25 = .ok (.putfield 16, 3) := by decide +kernel
theorem dX5_add_28 : decode cX5_add 28 = .ok (.aload_n 0, 1) := by decide +kernel
theorem dX5_add_29 : decode cX5_add 29 = .ok (.dup, 1) := by decide +kernel
theorem dX5_add_30 : decode cX5_add 30 = .ok (.getfield 28, 3) := by decide +kernel
theorem dX5_add_33 : decode cX5_add 33 = .ok (.iconst 1, 1) := by decide +kernel
theorem dX5_add_34 : decode cX5_add 34 = .ok (.iadd, 1) := by decide +kernel
theorem dX5_add_35 : decode cX5_add 35 = .ok (.putfield 28, 3) := by decide +kernel
theorem dX5_add_38 : decode cX5_add 38 = .ok (.return_, 1) := by decide +kernel
set_option maxHeartbeats 4000000 in
set_option maxRecDepth 100000 in
theorem bX5_add_23 {p : Program} {l : Launch} {e : Env} {R : Room} {s : State} {m : MethodId} {args : Array Value} {below : List Frame} {meth : Method} {c : Code} {base : Nat} {D : va_G} {dA : Nat → ClassId} {σ0 : PH} {z : Unit × PH} {F : Nat} (E : x_E p s m args c cX5_add 2 "WireMoney$Queue" D dA) (hr : meth.sig.returnType = none) (hk : meth.locks = false) (hfr : R.frames = 0) (hlo : R.locals = 0) : ∀ (y0 : Option Nat) (y1 : Option Nat) (σ : PH) (H : Heap) (locs : List Loc) (ls : Array Slot), x_S base D dA R s σ0 z.2 σ H locs → x_rn (mX5_add_23 F y0 y1) σ = some z → x_lv ls 2 [(0, .inr (.inl y0)), (1, .inr (.inl y1))] → W p l e R s m args below meth c H locs (x_N σ - x_N σ0) (x_U σ - x_U σ0) (x_end below args s base D dA (fun _ => none) σ0 z) (F0 m 23 ls []) := by
  intro y0 y1 σ H locs ls S hM hl
  unfold mX5_add_23 at hM
  refine w_aload_n E hl 0 dX5_add_23 rfl ?_
  refine w_aload_n E hl 1 dX5_add_24 rfl ?_
  refine w_wR E S hM lk_5_16 rfl (Or.inl rfl) dX5_add_25 (fun σ H locs S hM => ?_)
  refine w_aload_n E hl 0 dX5_add_28 rfl ?_
  refine lv_dup E.1 E.2.1 dX5_add_29 (x_cat _) ?_
  refine w_rI E S hM lk_5_28 rfl dX5_add_30 (fun v30 hM => ?_)
  refine lv_iconst (v := (1 : Int32)) E.1 E.2.1 dX5_add_33 (by decide) ?_
  refine lv_iadd E.1 E.2.1 dX5_add_34 ?_
  refine w_wI E S hM lk_5_28 rfl (Or.inl rfl) dX5_add_35 (fun σ H locs S hM => ?_)
  exact w_vret E S hM hr hk dX5_add_38
theorem mcX5_add : x_mc yX5_add cX5_add 2 none 1 := ⟨wd_451, wd_7, by decide +kernel⟩
set_option maxHeartbeats 4000000 in
set_option maxRecDepth 100000 in
theorem kX5_add (l : Launch) (base : Nat) (D : va_G) (dA : Nat → ClassId) (F : Nat) (r0 : Option Nat) (r1 : Option Nat) : x_Met l base D dA yX5_add cX5_add 2 none 0 0 [va_rf r0, va_rf r1] (mX5_add F r0 r1) (fun _ => none) := by
  refine x_Met.of [(0, .inr (.inl r0)), (1, .inr (.inl r1))] (by decide) (Nat.le_of_ble_eq_true rfl) rfl rfl ?_
  intro p e R s m args below meth c σ a τ ls hfr hlo E hr hk hn S hM hl
  have E : x_E p s m args c cX5_add 2 "WireMoney$Queue" D dA := E
  unfold mX5_add at hM
  refine w_aload_n E hl 0 dX5_add_0 rfl ?_
  refine w_rR E S hM lk_5_16 rfl dX5_add_1 (fun v1 hM => ?_)
  refine w_ifnonnull (tgt := 15) E hM dX5_add_4 (by decide) (fun c4 hM => ?_) (fun a4 c4 hM => ?_)
  · skip
    refine w_aload_n E hl 0 dX5_add_7 rfl ?_
    refine w_aload_n E hl 1 dX5_add_8 rfl ?_
    refine w_wR E S hM lk_5_20 rfl (Or.inl rfl) dX5_add_9 (fun σ H locs S hM => ?_)
    refine lv_goto (tgt := 23) E.1 E.2.1 dX5_add_12 (by decide) ?_
    exact bX5_add_23 E hr hk hfr hlo r0 r1 _ _ _ _ S hM (x_lv_sub hl [0, 1] rfl)
  · skip
    refine w_aload_n E hl 0 dX5_add_15 rfl ?_
    refine w_rR E S hM lk_5_16 rfl dX5_add_16 (fun v16 hM => ?_)
    refine w_aload_n E hl 1 dX5_add_19 rfl ?_
    refine w_wR E S hM lk_5_23 rfl (Or.inl rfl) dX5_add_20 (fun σ H locs S hM => ?_)
    exact bX5_add_23 E hr hk hfr hlo r0 r1 _ _ _ _ S hM (x_lv_sub hl [0, 1] rfl)
theorem dX5_take_0 : decode cX5_take 0 = .ok (.aload_n 0, 1) := by decide +kernel
theorem dX5_take_1 : decode cX5_take 1 = .ok (.getfield 20, 3) := by decide +kernel
theorem dX5_take_4 : decode cX5_take 4 = .ok (.astore_n 1, 1) := by decide +kernel
theorem dX5_take_5 : decode cX5_take 5 = .ok (.aload_n 1, 1) := by decide +kernel
theorem dX5_take_6 : decode cX5_take 6 = .ok (.ifnonnull 5, 3) := by decide +kernel
theorem dX5_take_9 : decode cX5_take 9 = .ok (.aconst_null, 1) := by decide +kernel
theorem dX5_take_10 : decode cX5_take 10 = .ok (.areturn, 1) := by decide +kernel
theorem dX5_take_11 : decode cX5_take 11 = .ok (.aload_n 0, 1) := by decide +kernel
theorem dX5_take_12 : decode cX5_take 12 = .ok (.aload_n 1, 1) := by decide +kernel
theorem dX5_take_13 : decode cX5_take 13 = .ok (.getfield 23, 3) := by decide +kernel
theorem dX5_take_16 : decode cX5_take 16 = .ok (.putfield 20, 3) := by decide +kernel
theorem dX5_take_19 : decode cX5_take 19 = .ok (.aload_n 0, 1) := by decide +kernel
theorem dX5_take_20 : decode cX5_take 20 = .ok (.getfield 20, 3) := by decide +kernel
theorem dX5_take_23 : decode cX5_take 23 = .ok (.ifnonnull 8, 3) := by decide +kernel
theorem dX5_take_26 : decode cX5_take 26 = .ok (.aload_n 0, 1) := by decide +kernel
theorem dX5_take_27 : decode cX5_take 27 = .ok (.aconst_null, 1) := by decide +kernel
theorem dX5_take_28 : decode cX5_take 28 = .ok (.putfield 16, 3) := by decide +kernel
theorem dX5_take_31 : decode cX5_take 31 = .ok (.aload_n 1, 1) := by decide +kernel
theorem dX5_take_32 : decode cX5_take 32 = .ok (.aconst_null, 1) := by decide +kernel
theorem dX5_take_33 : decode cX5_take 33 = .ok (.putfield 23, 3) := by decide +kernel
theorem dX5_take_36 : decode cX5_take 36 = .ok (.aload_n 0, 1) := by decide +kernel
theorem dX5_take_37 : decode cX5_take 37 = .ok (.dup, 1) := by decide +kernel
theorem dX5_take_38 : decode cX5_take 38 = .ok (.getfield 28, 3) := by decide +kernel
theorem dX5_take_41 : decode cX5_take 41 = .ok (.iconst 1, 1) := by decide +kernel
theorem dX5_take_42 : decode cX5_take 42 = .ok (.isub, 1) := by decide +kernel
theorem dX5_take_43 : decode cX5_take 43 = .ok (.putfield 28, 3) := by decide +kernel
theorem dX5_take_46 : decode cX5_take 46 = .ok (.aload_n 1, 1) := by decide +kernel
theorem dX5_take_47 : decode cX5_take 47 = .ok (.areturn, 1) := by decide +kernel
set_option maxHeartbeats 4000000 in
set_option maxRecDepth 100000 in
theorem bX5_take_31 {p : Program} {l : Launch} {e : Env} {R : Room} {s : State} {m : MethodId} {args : Array Value} {below : List Frame} {meth : Method} {c : Code} {base : Nat} {D : va_G} {dA : Nat → ClassId} {σ0 : PH} {z : Option Nat × PH} {F : Nat} (E : x_E p s m args c cX5_take 2 "WireMoney$Queue" D dA) (hr : meth.sig.returnType = (some (.object "WireMoney$Message"))) (hk : meth.locks = false) (hfr : R.frames = 0) (hlo : R.locals = 0) : ∀ (y0 : Option Nat) (y1 : Option Nat) (σ : PH) (H : Heap) (locs : List Loc) (ls : Array Slot), x_S base D dA R s σ0 z.2 σ H locs → x_rn (mX5_take_31 F y0 y1) σ = some z → x_lv ls 2 [(0, .inr (.inl y0)), (1, .inr (.inl y1))] → W p l e R s m args below meth c H locs (x_N σ - x_N σ0) (x_U σ - x_U σ0) (x_end below args s base D dA (fun x => some (va_rf x)) σ0 z) (F0 m 31 ls []) := by
  intro y0 y1 σ H locs ls S hM hl
  unfold mX5_take_31 at hM
  refine w_aload_n E hl 1 dX5_take_31 rfl ?_
  refine w_null E dX5_take_32 ?_
  refine w_wR E S hM lk_5_23 rfl (Or.inl rfl) dX5_take_33 (fun σ H locs S hM => ?_)
  refine w_aload_n E hl 0 dX5_take_36 rfl ?_
  refine lv_dup E.1 E.2.1 dX5_take_37 (x_cat _) ?_
  refine w_rI E S hM lk_5_28 rfl dX5_take_38 (fun v38 hM => ?_)
  refine lv_iconst (v := (1 : Int32)) E.1 E.2.1 dX5_take_41 (by decide) ?_
  refine lv_isub E.1 E.2.1 dX5_take_42 ?_
  refine w_wI E S hM lk_5_28 rfl (Or.inl rfl) dX5_take_43 (fun σ H locs S hM => ?_)
  refine w_aload_n E hl 1 dX5_take_46 rfl ?_
  exact w_aret E S hM hr hk dX5_take_47
theorem mcX5_take : x_mc yX5_take cX5_take 2 (some (.object "WireMoney$Message")) 0 := ⟨wd_543, wd_7, by decide +kernel⟩
set_option maxHeartbeats 4000000 in
set_option maxRecDepth 100000 in
theorem kX5_take (l : Launch) (base : Nat) (D : va_G) (dA : Nat → ClassId) (F : Nat) (r0 : Option Nat) : x_Met l base D dA yX5_take cX5_take 2 (some (.object "WireMoney$Message")) 0 0 [va_rf r0] (mX5_take F r0) (fun x => some (va_rf x)) := by
  refine x_Met.of [(0, .inr (.inl r0))] (by decide) (Nat.le_of_ble_eq_true rfl) rfl rfl ?_
  intro p e R s m args below meth c σ a τ ls hfr hlo E hr hk hn S hM hl
  have E : x_E p s m args c cX5_take 2 "WireMoney$Queue" D dA := E
  unfold mX5_take at hM
  refine w_aload_n E hl 0 dX5_take_0 rfl ?_
  refine w_rR E S hM lk_5_20 rfl dX5_take_1 (fun v1 hM => ?_)
  refine w_astore_n (lt' := [(1, .inr (.inl v1)), (0, .inr (.inl r0))]) E hl dX5_take_4 (by decide) rfl (fun ls hl => ?_)
  refine w_aload_n E hl 0 dX5_take_5 rfl ?_
  refine w_ifnonnull (tgt := 11) E hM dX5_take_6 (by decide) (fun c6 hM => ?_) (fun a6 c6 hM => ?_)
  · skip
    refine w_null E dX5_take_9 ?_
    exact w_aret E S hM hr hk dX5_take_10
  · skip
    refine w_aload_n E hl 1 dX5_take_11 rfl ?_
    refine w_aload_n E hl 0 dX5_take_12 rfl ?_
    refine w_rR E S hM lk_5_23 rfl dX5_take_13 (fun v13 hM => ?_)
    refine w_wR E S hM lk_5_20 rfl (Or.inl rfl) dX5_take_16 (fun σ H locs S hM => ?_)
    refine w_aload_n E hl 1 dX5_take_19 rfl ?_
    refine w_rR E S hM lk_5_20 rfl dX5_take_20 (fun v20 hM => ?_)
    refine w_ifnonnull (tgt := 31) E hM dX5_take_23 (by decide) (fun c23 hM => ?_) (fun a23 c23 hM => ?_)
    · skip
      refine w_aload_n E hl 1 dX5_take_26 rfl ?_
      refine w_null E dX5_take_27 ?_
      refine w_wR E S hM lk_5_16 rfl (Or.inl rfl) dX5_take_28 (fun σ H locs S hM => ?_)
      exact bX5_take_31 E hr hk hfr hlo r0 v1 _ _ _ _ S hM (x_lv_sub hl [1, 0] rfl)
    · skip
      exact bX5_take_31 E hr hk hfr hlo r0 v1 _ _ _ _ S hM (x_lv_sub hl [1, 0] rfl)
theorem dX6_testOf_0 : decode cX6_testOf 0 = .ok (.iconst 0, 1) := by decide +kernel
theorem dX6_testOf_1 : decode cX6_testOf 1 = .ok (.istore_n 2, 1) := by decide +kernel
theorem dX6_testOf_2 : decode cX6_testOf 2 = .ok (.iconst 0, 1) := by decide +kernel
theorem dX6_testOf_3 : decode cX6_testOf 3 = .ok (.istore_n 3, 1) := by decide +kernel
theorem dX6_testOf_4 : decode cX6_testOf 4 = .ok (.iload_n 3, 1) := by decide +kernel
theorem dX6_testOf_5 : decode cX6_testOf 5 = .ok (.aload_n 0, 1) := by decide +kernel
theorem dX6_testOf_6 : decode cX6_testOf 6 = .ok (.arraylength, 1) := by decide +kernel
theorem dX6_testOf_7 : decode cX6_testOf 7 = .ok (.if_icmp .ge 34, 3) := by decide +kernel
theorem dX6_testOf_10 : decode cX6_testOf 10 = .ok (.iconst 1, 1) := by decide +kernel
theorem dX6_testOf_11 : decode cX6_testOf 11 = .ok (.bipush 7, 2) := by decide +kernel
theorem dX6_testOf_13 : decode cX6_testOf 13 = .ok (.iload_n 1, 1) := by decide +kernel
theorem dX6_testOf_14 : decode cX6_testOf 14 = .ok (.imul, 1) := by decide +kernel
theorem dX6_testOf_15 : decode cX6_testOf 15 = .ok (.bipush 13, 2) := by decide +kernel
theorem dX6_testOf_17 : decode cX6_testOf 17 = .ok (.iload_n 3, 1) := by decide +kernel
theorem dX6_testOf_18 : decode cX6_testOf 18 = .ok (.imul, 1) := by decide +kernel
theorem dX6_testOf_19 : decode cX6_testOf 19 = .ok (.iadd, 1) := by decide +kernel
theorem dX6_testOf_20 : decode cX6_testOf 20 = .ok (.bipush 96, 2) := by decide +kernel
theorem dX6_testOf_22 : decode cX6_testOf 22 = .ok (.irem, 1) := by decide +kernel
theorem dX6_testOf_23 : decode cX6_testOf 23 = .ok (.iadd, 1) := by decide +kernel
theorem dX6_testOf_24 : decode cX6_testOf 24 = .ok (.istore 4, 2) := by decide +kernel
theorem dX6_testOf_26 : decode cX6_testOf 26 = .ok (.iload_n 2, 1) := by decide +kernel
theorem dX6_testOf_27 : decode cX6_testOf 27 = .ok (.aload_n 0, 1) := by decide +kernel
theorem dX6_testOf_28 : decode cX6_testOf 28 = .ok (.iload_n 3, 1) := by decide +kernel
theorem dX6_testOf_29 : decode cX6_testOf 29 = .ok (.iaload, 1) := by decide +kernel
theorem dX6_testOf_30 : decode cX6_testOf 30 = .ok (.iload 4, 2) := by decide +kernel
theorem dX6_testOf_32 : decode cX6_testOf 32 = .ok (.imul, 1) := by decide +kernel
theorem dX6_testOf_33 : decode cX6_testOf 33 = .ok (.iadd, 1) := by decide +kernel
theorem dX6_testOf_34 : decode cX6_testOf 34 = .ok (.istore_n 2, 1) := by decide +kernel
theorem dX6_testOf_35 : decode cX6_testOf 35 = .ok (.iinc 3 1, 3) := by decide +kernel
theorem dX6_testOf_38 : decode cX6_testOf 38 = .ok (.goto (-34), 3) := by decide +kernel
theorem dX6_testOf_41 : decode cX6_testOf 41 = .ok (.iload_n 2, 1) := by decide +kernel
theorem dX6_testOf_42 : decode cX6_testOf 42 = .ok (.bipush 97, 2) := by decide +kernel
theorem dX6_testOf_44 : decode cX6_testOf 44 = .ok (.irem, 1) := by decide +kernel
theorem dX6_testOf_45 : decode cX6_testOf 45 = .ok (.ireturn, 1) := by decide +kernel
set_option maxHeartbeats 4000000 in
set_option maxRecDepth 100000 in
theorem bX6_testOf_4 {p : Program} {l : Launch} {e : Env} {R : Room} {s : State} {m : MethodId} {args : Array Value} {below : List Frame} {meth : Method} {c : Code} {base : Nat} {D : va_G} {dA : Nat → ClassId} {σ0 : PH} {z : Int32 × PH} {F : Nat} (E : x_E p s m args c cX6_testOf 5 "WireMoney$Signs" D dA) (hr : meth.sig.returnType = (some .int)) (hk : meth.locks = false) (hfr : R.frames = 0) (hlo : R.locals = 0) : ∀ (n : Nat) (y0 : Option Nat) (y1 : Int32) (y2 : Int32) (y3 : Int32) (σ : PH) (H : Heap) (locs : List Loc) (ls : Array Slot), x_S base D dA R s σ0 z.2 σ H locs → x_rn (mX6_testOf_4 F n y0 y1 y2 y3) σ = some z → x_lv ls 5 [(0, .inr (.inl y0)), (1, .inl y1), (2, .inl y2), (3, .inl y3)] → W p l e R s m args below meth c H locs (x_N σ - x_N σ0) (x_U σ - x_U σ0) (x_end below args s base D dA (fun x => some (.int x)) σ0 z) (F0 m 4 ls []) := by
  intro n
  induction n with
  | zero =>
    intro y0 y1 y2 y3 σ H locs ls S hM hl
    cases hM
  | succ n ih =>
    intro y0 y1 y2 y3 σ H locs ls S hM hl
    rw [mX6_testOf_4] at hM
    refine w_iload_n E hl 3 dX6_testOf_4 rfl ?_
    refine w_aload_n E hl 0 dX6_testOf_5 rfl ?_
    refine w_aL E S hM (by decide) dX6_testOf_6 (fun v6 hM => ?_)
    refine lv_icmp_ge (tgt := 41) E.1 E.2.1 dX6_testOf_7 (by decide) (fun c7 => ?_) (fun c7 => ?_)
    · replace hM := x_okT hM c7
      refine w_iload_n E hl 2 dX6_testOf_41 rfl ?_
      refine lv_bipush (v := (97 : Int32)) E.1 E.2.1 dX6_testOf_42 (by decide) ?_
      refine w_irem E dX6_testOf_44 (by decide) ?_
      exact w_iret E S hM hr hk dX6_testOf_45
    · replace hM := x_okF hM c7
      refine lv_iconst (v := (1 : Int32)) E.1 E.2.1 dX6_testOf_10 (by decide) ?_
      refine lv_bipush (v := (7 : Int32)) E.1 E.2.1 dX6_testOf_11 (by decide) ?_
      refine w_iload_n E hl 1 dX6_testOf_13 rfl ?_
      refine lv_imul E.1 E.2.1 dX6_testOf_14 ?_
      refine lv_bipush (v := (13 : Int32)) E.1 E.2.1 dX6_testOf_15 (by decide) ?_
      refine w_iload_n E hl 3 dX6_testOf_17 rfl ?_
      refine lv_imul E.1 E.2.1 dX6_testOf_18 ?_
      refine lv_iadd E.1 E.2.1 dX6_testOf_19 ?_
      refine lv_bipush (v := (96 : Int32)) E.1 E.2.1 dX6_testOf_20 (by decide) ?_
      refine w_irem E dX6_testOf_22 (by decide) ?_
      refine lv_iadd E.1 E.2.1 dX6_testOf_23 ?_
      refine w_nm hM (fun v24 hM => ?_)
      refine w_istore (lt' := [(4, .inl v24), (0, .inr (.inl y0)), (1, .inl y1), (2, .inl y2), (3, .inl y3)]) E hl dX6_testOf_24 (by decide) rfl (fun ls hl => ?_)
      refine w_iload_n E hl 3 dX6_testOf_26 rfl ?_
      refine w_aload_n E hl 1 dX6_testOf_27 rfl ?_
      refine w_iload_n E hl 4 dX6_testOf_28 rfl ?_
      refine w_aI E S hM dX6_testOf_29 (fun v29 hM => ?_)
      refine w_iload E hl 0 dX6_testOf_30 rfl ?_
      refine lv_imul E.1 E.2.1 dX6_testOf_32 ?_
      refine lv_iadd E.1 E.2.1 dX6_testOf_33 ?_
      refine w_nm hM (fun v34 hM => ?_)
      refine w_istore_n (lt' := [(2, .inl v34), (4, .inl v24), (0, .inr (.inl y0)), (1, .inl y1), (3, .inl y3)]) E hl dX6_testOf_34 (by decide) rfl (fun ls hl => ?_)
      refine w_iincN (ltf := fun v35 => [(3, .inl v35), (2, .inl v34), (4, .inl v24), (0, .inr (.inl y0)), (1, .inl y1)]) E hl 4 hM dX6_testOf_35 rfl (by decide) (by decide) (fun _ => rfl) (fun v35 ls hM hl => ?_)
      refine lv_goto (tgt := 4) E.1 E.2.1 dX6_testOf_38 (by decide) ?_
      exact ih y0 y1 v34 v35 _ _ _ _ S hM (x_lv_sub hl [3, 4, 1, 0] rfl)
theorem mcX6_testOf : x_mc yX6_testOf cX6_testOf 5 (some .int) 2 := ⟨wd_373, wd_10, by decide +kernel⟩
set_option maxHeartbeats 4000000 in
set_option maxRecDepth 100000 in
theorem kX6_testOf (l : Launch) (base : Nat) (D : va_G) (dA : Nat → ClassId) (F : Nat) (r0 : Option Nat) (x1 : Int32) : x_Met l base D dA yX6_testOf cX6_testOf 5 (some .int) 0 0 [va_rf r0, .int x1] (mX6_testOf F r0 x1) (fun x => some (.int x)) := by
  refine x_Met.of [(0, .inr (.inl r0)), (1, .inl x1)] (by decide) (Nat.le_of_ble_eq_true rfl) rfl rfl ?_
  intro p e R s m args below meth c σ a τ ls hfr hlo E hr hk hn S hM hl
  have E : x_E p s m args c cX6_testOf 5 "WireMoney$Signs" D dA := E
  unfold mX6_testOf at hM
  refine lv_iconst (v := (0 : Int32)) E.1 E.2.1 dX6_testOf_0 (by decide) ?_
  refine w_istore_n (lt' := [(2, .inl (0 : Int32)), (0, .inr (.inl r0)), (1, .inl x1)]) E hl dX6_testOf_1 (by decide) rfl (fun ls hl => ?_)
  refine lv_iconst (v := (0 : Int32)) E.1 E.2.1 dX6_testOf_2 (by decide) ?_
  refine w_istore_n (lt' := [(3, .inl (0 : Int32)), (2, .inl (0 : Int32)), (0, .inr (.inl r0)), (1, .inl x1)]) E hl dX6_testOf_3 (by decide) rfl (fun ls hl => ?_)
  exact bX6_testOf_4 E hr hk hfr hlo F r0 x1 (0 : Int32) (0 : Int32) _ _ _ _ S hM (x_lv_sub hl [2, 3, 1, 0] rfl)
