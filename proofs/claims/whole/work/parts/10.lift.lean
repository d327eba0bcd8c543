theorem dX0_init_0 : decode cX0_init 0 = .ok (.aload_n 0, 1) := by decide +kernel
theorem dX0_init_1 : decode cX0_init 1 = .ok (.invokespecial 3, 3) := by decide +kernel
theorem dX0_init_4 : decode cX0_init 4 = .ok (.aload_n 0, 1) := by decide +kernel
theorem dX0_init_5 : decode cX0_init 5 = .ok (.bipush 8, 2) := by decide +kernel
theorem dX0_init_7 : decode cX0_init 7 = .ok (.newarray .int, 2) := by decide +kernel
theorem dX0_init_9 : decode cX0_init 9 = .ok (.putfield 9, 3) := by decide +kernel
theorem dX0_init_12 : decode cX0_init 12 = .ok (.aload_n 0, 1) := by decide +kernel
theorem dX0_init_13 : decode cX0_init 13 = .ok (.bipush 8, 2) := by decide +kernel
theorem dX0_init_15 : decode cX0_init 15 = .ok (.newarray .int, 2) := by decide +kernel
theorem dX0_init_17 : decode cX0_init 17 = .ok (.putfield 15, 3) := by decide +kernel
theorem dX0_init_20 : decode cX0_init 20 = .ok (.return_, 1) := by decide +kernel
theorem mcX0_init : x_mc yX0_init cX0_init 1 none 0 := ⟨wd_60, wd_3, by decide +kernel⟩
set_option maxHeartbeats 4000000 in
set_option maxRecDepth 100000 in
theorem kX0_init (l : Launch) (base : Nat) (D : va_G) (dA : Nat → ClassId) (F : Nat) (r0 : Nat) : x_Met l base D dA yX0_init cX0_init 1 none 1 21 [va_rf (some r0)] (mX0_init F (some r0)) (fun _ => none) := by
  refine x_Met.of [(0, .inr (.inl (some r0)))] (by decide) (Nat.le_of_ble_eq_true rfl) rfl rfl ?_
  intro p e R s m args below meth c σ a τ ls hfr hlo E hr hk hn S hM hl
  have E : x_E p s m args c cX0_init 1 "WireMoney$Bands" D dA := E
  unfold mX0_init at hM
  refine w_aload_n E hl 0 dX0_init_0 rfl ?_
  refine w_obj E hl ⟨wd_61, wd_18, wd_19⟩ (by rw [hfr, hlo]; decide) (Nat.le_of_ble_eq_true rfl) dX0_init_1 ?_
  refine w_aload_n E hl 0 dX0_init_4 rfl ?_
  refine lv_bipush (v := (8 : Int32)) E.1 E.2.1 dX0_init_5 (by decide) ?_
  refine w_newa (atype := .int) E S hM ⟨by decide, rfl, wd_55⟩ dX0_init_7 (fun v7 σ H S hM => ?_)
  refine w_wR E S hM lk_0_9 rfl (Or.inr ⟨hn, rfl, rfl⟩) dX0_init_9 (fun σ H locs S hM => ?_)
  refine w_aload_n E hl 0 dX0_init_12 rfl ?_
  refine lv_bipush (v := (8 : Int32)) E.1 E.2.1 dX0_init_13 (by decide) ?_
  refine w_newa (atype := .int) E S hM ⟨by decide, rfl, wd_55⟩ dX0_init_15 (fun v15 σ H S hM => ?_)
  refine w_wR E S hM lk_0_15 rfl (Or.inr ⟨hn, rfl, rfl⟩) dX0_init_17 (fun σ H locs S hM => ?_)
  exact w_vret E S hM hr hk dX0_init_20
theorem dX0_highestBound_0 : decode cX0_highestBound 0 = .ok (.aload_n 0, 1) := by decide +kernel
theorem dX0_highestBound_1 : decode cX0_highestBound 1 = .ok (.getfield 18, 3) := by decide +kernel
theorem dX0_highestBound_4 : decode cX0_highestBound 4 = .ok (.ifCond .le 26, 3) := by decide +kernel
theorem dX0_highestBound_7 : decode cX0_highestBound 7 = .ok (.aload_n 0, 1) := by decide +kernel
theorem dX0_highestBound_8 : decode cX0_highestBound 8 = .ok (.getfield 18, 3) := by decide +kernel
theorem dX0_highestBound_11 : decode cX0_highestBound 11 = .ok (.bipush 8, 2) := by decide +kernel
theorem dX0_highestBound_13 : decode cX0_highestBound 13 = .ok (.if_icmp .gt 17, 3) := by decide +kernel
theorem dX0_highestBound_16 : decode cX0_highestBound 16 = .ok (.aload_n 0, 1) := by decide +kernel
theorem dX0_highestBound_17 : decode cX0_highestBound 17 = .ok (.getfield 9, 3) := by decide +kernel
theorem dX0_highestBound_20 : decode cX0_highestBound 20 = .ok (.aload_n 0, 1) := by decide +kernel
theorem dX0_highestBound_21 : decode cX0_highestBound 21 = .ok (.getfield 18, 3) := by decide +kernel
theorem dX0_highestBound_24 : decode cX0_highestBound 24 = .ok (.iconst 1, 1) := by decide +kernel
theorem dX0_highestBound_25 : decode cX0_highestBound 25 = .ok (.isub, 1) := by decide +kernel
theorem dX0_highestBound_26 : decode cX0_highestBound 26 = .ok (.iaload, 1) := by decide +kernel
theorem dX0_highestBound_27 : decode cX0_highestBound 27 = .ok (.goto 4, 3) := by decide +kernel
theorem dX0_highestBound_30 : decode cX0_highestBound 30 = .ok (.iconst 0, 1) := by decide +kernel
theorem dX0_highestBound_31 : decode cX0_highestBound 31 = .ok (.ireturn, 1) := by decide +kernel
theorem mcX0_highestBound : x_mc yX0_highestBound cX0_highestBound 1 (some .int) 0 := ⟨wd_275, wd_3, by decide +kernel⟩
set_option maxHeartbeats 4000000 in
set_option maxRecDepth 100000 in
theorem kX0_highestBound (l : Launch) (base : Nat) (D : va_G) (dA : Nat → ClassId) (F : Nat) (r0 : Option Nat) : x_Met l base D dA yX0_highestBound cX0_highestBound 1 (some .int) 0 0 [va_rf r0] (mX0_highestBound F r0) (fun x => some (.int x)) := by
  refine x_Met.of [(0, .inr (.inl r0))] (by decide) (Nat.le_of_ble_eq_true rfl) rfl rfl ?_
  intro p e R s m args below meth c σ a τ ls hfr hlo E hr hk hn S hM hl
  have E : x_E p s m args c cX0_highestBound 1 "WireMoney$Bands" D dA := E
  unfold mX0_highestBound at hM
  refine w_aload_n E hl 0 dX0_highestBound_0 rfl ?_
  refine w_rI E S hM lk_0_18 rfl dX0_highestBound_1 (fun v1 hM => ?_)
  refine lv_if_le (tgt := 30) E.1 E.2.1 dX0_highestBound_4 (by decide) (fun c4 => ?_) (fun c4 => ?_)
  · replace hM := x_okT hM c4
    refine lv_iconst (v := (0 : Int32)) E.1 E.2.1 dX0_highestBound_30 (by decide) ?_
    exact w_iret E S hM hr hk dX0_highestBound_31
  · replace hM := x_okF hM c4
    refine w_aload_n E hl 0 dX0_highestBound_7 rfl ?_
    refine w_rI E S hM lk_0_18 rfl dX0_highestBound_8 (fun v8 hM => ?_)
    refine lv_bipush (v := (8 : Int32)) E.1 E.2.1 dX0_highestBound_11 (by decide) ?_
    refine lv_icmp_gt (tgt := 30) E.1 E.2.1 dX0_highestBound_13 (by decide) (fun c13 => ?_) (fun c13 => ?_)
    · replace hM := x_okT hM c13
      refine lv_iconst (v := (0 : Int32)) E.1 E.2.1 dX0_highestBound_30 (by decide) ?_
      exact w_iret E S hM hr hk dX0_highestBound_31
    · replace hM := x_okF hM c13
      refine w_aload_n E hl 0 dX0_highestBound_16 rfl ?_
      refine w_rR E S hM lk_0_9 rfl dX0_highestBound_17 (fun v17 hM => ?_)
      refine w_aload_n E hl 0 dX0_highestBound_20 rfl ?_
      refine w_rI E S hM lk_0_18 rfl dX0_highestBound_21 (fun v21 hM => ?_)
      refine lv_iconst (v := (1 : Int32)) E.1 E.2.1 dX0_highestBound_24 (by decide) ?_
      refine lv_isub E.1 E.2.1 dX0_highestBound_25 ?_
      refine w_aI E S hM dX0_highestBound_26 (fun v26 hM => ?_)
      refine lv_goto (tgt := 31) E.1 E.2.1 dX0_highestBound_27 (by decide) ?_
      exact w_iret E S hM hr hk dX0_highestBound_31
theorem dX0_add_0 : decode cX0_add 0 = .ok (.aload_n 0, 1) := by decide +kernel
theorem dX0_add_1 : decode cX0_add 1 = .ok (.getfield 18, 3) := by decide +kernel
theorem dX0_add_4 : decode cX0_add 4 = .ok (.bipush 8, 2) := by decide +kernel
theorem dX0_add_6 : decode cX0_add 6 = .ok (.if_icmp .ge 11, 3) := by decide +kernel
theorem dX0_add_9 : decode cX0_add 9 = .ok (.iload_n 1, 1) := by decide +kernel
theorem dX0_add_10 : decode cX0_add 10 = .ok (.aload_n 0, 1) := by decide +kernel
theorem dX0_add_11 : decode cX0_add 11 = .ok (.invokevirtual 22, 3) := by decide +kernel
theorem dX0_add_14 : decode cX0_add 14 = .ok (.if_icmp .gt 5, 3) := by decide +kernel
theorem dX0_add_17 : decode cX0_add 17 = .ok (.iconst 0, 1) := by decide +kernel
theorem dX0_add_18 : decode cX0_add 18 = .ok (.ireturn, 1) := by decide +kernel
theorem dX0_add_19 : decode cX0_add 19 = .ok (.aload_n 0, 1) := by decide +kernel
theorem dX0_add_20 : decode cX0_add 20 = .ok (.getfield 9, 3) := by decide +kernel
theorem dX0_add_23 : decode cX0_add 23 = .ok (.aload_n 0, 1) := by decide +kernel
theorem dX0_add_24 : decode cX0_add 24 = .ok (.getfield 18, 3) := by decide +kernel
theorem dX0_add_27 : decode cX0_add 27 = .ok (.iload_n 1, 1) := by decide +kernel
theorem dX0_add_28 : decode cX0_add 28 = .ok (.iastore, 1) := by decide +kernel
theorem dX0_add_29 : decode cX0_add 29 = .ok (.aload_n 0, 1) := by decide +kernel
theorem dX0_add_30 : decode cX0_add 30 = .ok (.getfield 15, 3) := by decide +kernel
theorem dX0_add_33 : decode cX0_add 33 = .ok (.aload_n 0, 1) := by decide +kernel
theorem dX0_add_34 : decode cX0_add 34 = .ok (.getfield 18, 3) := by decide +kernel
theorem dX0_add_37 : decode cX0_add 37 = .ok (.iload_n 2, 1) := by decide +kernel
theorem dX0_add_38 : decode cX0_add 38 = .ok (.iastore, 1) := by decide +kernel
theorem dX0_add_39 : decode cX0_add 39 = .ok (.aload_n 0, 1) := by decide +kernel
theorem dX0_add_40 : decode cX0_add 40 = .ok (.dup, 1) := by decide +kernel
theorem dX0_add_41 : decode cX0_add 41 = .ok (.getfield 18, 3) := by decide +kernel
theorem dX0_add_44 : decode cX0_add 44 = .ok (.iconst 1, 1) := by decide +kernel
theorem dX0_add_45 : decode cX0_add 45 = .ok (.iadd, 1) := by decide +kernel
theorem dX0_add_46 : decode cX0_add 46 = .ok (.putfield 18, 3) := by decide +kernel
theorem dX0_add_49 : decode cX0_add 49 = .ok (.iconst 1, 1) := by decide +kernel
theorem dX0_add_50 : decode cX0_add 50 = .ok (.ireturn, 1) := by decide +kernel
theorem mcX0_add : x_mc yX0_add cX0_add 3 (some .boolean) 2 := ⟨wd_271, wd_3, by decide +kernel⟩
set_option maxHeartbeats 4000000 in
set_option maxRecDepth 100000 in
theorem kX0_add (l : Launch) (base : Nat) (D : va_G) (dA : Nat → ClassId) (F : Nat) (r0 : Option Nat) (x1 : Int32) (x2 : Int32) : x_Met l base D dA yX0_add cX0_add 3 (some .boolean) 1 20 [va_rf r0, .int x1, .int x2] (mX0_add F r0 x1 x2) (fun x => some (.int x)) := by
  refine x_Met.of [(0, .inr (.inl r0)), (1, .inl x1), (2, .inl x2)] (by decide) (Nat.le_of_ble_eq_true rfl) rfl rfl ?_
  intro p e R s m args below meth c σ a τ ls hfr hlo E hr hk hn S hM hl
  have E : x_E p s m args c cX0_add 3 "WireMoney$Bands" D dA := E
  unfold mX0_add at hM
  refine w_aload_n E hl 0 dX0_add_0 rfl ?_
  refine w_rI E S hM lk_0_18 rfl dX0_add_1 (fun v1 hM => ?_)
  refine lv_bipush (v := (8 : Int32)) E.1 E.2.1 dX0_add_4 (by decide) ?_
  refine lv_icmp_ge (tgt := 17) E.1 E.2.1 dX0_add_6 (by decide) (fun c6 => ?_) (fun c6 => ?_)
  · replace hM := x_okT hM c6
    refine lv_iconst (v := (0 : Int32)) E.1 E.2.1 dX0_add_17 (by decide) ?_
    exact w_zretc E S hM (by decide) hr hk dX0_add_18
  · replace hM := x_okF hM c6
    refine w_iload_n E hl 1 dX0_add_9 rfl ?_
    refine w_aload_n E hl 0 dX0_add_10 rfl ?_
    refine w_cVi (rest := [.int x1]) E S hl hM (kX0_highestBound l base D dA F r0) mcX0_highestBound ⟨by decide, rfl, wd_272, wd_274, wp_5⟩ hfr hlo (by decide) rfl (Nat.le_of_ble_eq_true rfl) dX0_add_11 rfl (fun v11 σ H locs S hM => ?_)
    refine lv_icmp_gt (tgt := 19) E.1 E.2.1 dX0_add_14 (by decide) (fun c14 => ?_) (fun c14 => ?_)
    · replace hM := x_okT hM c14
      refine w_aload_n E hl 0 dX0_add_19 rfl ?_
      refine w_rR E S hM lk_0_9 rfl dX0_add_20 (fun v20 hM => ?_)
      refine w_aload_n E hl 0 dX0_add_23 rfl ?_
      refine w_rI E S hM lk_0_18 rfl dX0_add_24 (fun v24 hM => ?_)
      refine w_iload_n E hl 1 dX0_add_27 rfl ?_
      refine w_sI E S hM dX0_add_28 (fun σ H locs S hM => ?_)
      refine w_aload_n E hl 0 dX0_add_29 rfl ?_
      refine w_rR E S hM lk_0_15 rfl dX0_add_30 (fun v30 hM => ?_)
      refine w_aload_n E hl 0 dX0_add_33 rfl ?_
      refine w_rI E S hM lk_0_18 rfl dX0_add_34 (fun v34 hM => ?_)
      refine w_iload_n E hl 2 dX0_add_37 rfl ?_
      refine w_sI E S hM dX0_add_38 (fun σ H locs S hM => ?_)
      refine w_aload_n E hl 0 dX0_add_39 rfl ?_
      refine lv_dup E.1 E.2.1 dX0_add_40 (x_cat _) ?_
      refine w_rI E S hM lk_0_18 rfl dX0_add_41 (fun v41 hM => ?_)
      refine lv_iconst (v := (1 : Int32)) E.1 E.2.1 dX0_add_44 (by decide) ?_
      refine lv_iadd E.1 E.2.1 dX0_add_45 ?_
      refine w_wI E S hM lk_0_18 rfl (Or.inl rfl) dX0_add_46 (fun σ H locs S hM => ?_)
      refine lv_iconst (v := (1 : Int32)) E.1 E.2.1 dX0_add_49 (by decide) ?_
      exact w_zretc E S hM (by decide) hr hk dX0_add_50
    · replace hM := x_okF hM c14
      refine lv_iconst (v := (0 : Int32)) E.1 E.2.1 dX0_add_17 (by decide) ?_
      exact w_zretc E S hM (by decide) hr hk dX0_add_18
theorem dX0_feeOf_0 : decode cX0_feeOf 0 = .ok (.iconst 0, 1) := by decide +kernel
theorem dX0_feeOf_1 : decode cX0_feeOf 1 = .ok (.istore_n 2, 1) := by decide +kernel
theorem dX0_feeOf_2 : decode cX0_feeOf 2 = .ok (.iload_n 2, 1) := by decide +kernel
theorem dX0_feeOf_3 : decode cX0_feeOf 3 = .ok (.aload_n 0, 1) := by decide +kernel
theorem dX0_feeOf_4 : decode cX0_feeOf 4 = .ok (.getfield 18, 3) := by decide +kernel
theorem dX0_feeOf_7 : decode cX0_feeOf 7 = .ok (.if_icmp .ge 32, 3) := by decide +kernel
theorem dX0_feeOf_10 : decode cX0_feeOf 10 = .ok (.iload_n 2, 1) := by decide +kernel
theorem dX0_feeOf_11 : decode cX0_feeOf 11 = .ok (.bipush 8, 2) := by decide +kernel
theorem dX0_feeOf_13 : decode cX0_feeOf 13 = .ok (.if_icmp .ge 26, 3) := by decide +kernel
theorem dX0_feeOf_16 : decode cX0_feeOf 16 = .ok (.aload_n 0, 1) := by decide +kernel
theorem dX0_feeOf_17 : decode cX0_feeOf 17 = .ok (.getfield 9, 3) := by decide +kernel
theorem dX0_feeOf_20 : decode cX0_feeOf 20 = .ok (.iload_n 2, 1) := by decide +kernel
theorem dX0_feeOf_21 : decode cX0_feeOf 21 = .ok (.iaload, 1) := by decide +kernel
theorem dX0_feeOf_22 : decode cX0_feeOf 22 = .ok (.iload_n 1, 1) := by decide +kernel
theorem dX0_feeOf_23 : decode cX0_feeOf 23 = .ok (.if_icmp .lt 10, 3) := by decide +kernel
theorem dX0_feeOf_26 : decode cX0_feeOf 26 = .ok (.aload_n 0, 1) := by decide +kernel
theorem dX0_feeOf_27 : decode cX0_feeOf 27 = .ok (.getfield 15, 3) := by decide +kernel
theorem dX0_feeOf_30 : decode cX0_feeOf 30 = .ok (.iload_n 2, 1) := by decide +kernel
theorem dX0_feeOf_31 : decode cX0_feeOf 31 = .ok (.iaload, 1) := by decide +kernel
theorem dX0_feeOf_32 : decode cX0_feeOf 32 = .ok (.ireturn, 1) := by decide +kernel
theorem dX0_feeOf_33 : decode cX0_feeOf 33 = .ok (.iinc 2 1, 3) := by decide +kernel
theorem dX0_feeOf_36 : decode cX0_feeOf 36 = .ok (.goto (-34), 3) := by decide +kernel
theorem dX0_feeOf_39 : decode cX0_feeOf 39 = .ok (.iconst 1, 1) := by decide +kernel
theorem dX0_feeOf_40 : decode cX0_feeOf 40 = .ok (.iload_n 1, 1) := by decide +kernel
theorem dX0_feeOf_41 : decode cX0_feeOf 41 = .ok (.bipush 100, 2) := by decide +kernel
theorem dX0_feeOf_43 : decode cX0_feeOf 43 = .ok (.idiv, 1) := by decide +kernel
theorem dX0_feeOf_44 : decode cX0_feeOf 44 = .ok (.invokestatic 26, 3) := by decide +kernel
theorem dX0_feeOf_47 : decode cX0_feeOf 47 = .ok (.ireturn, 1) := by decide +kernel
set_option maxHeartbeats 4000000 in
set_option maxRecDepth 100000 in
theorem bX0_feeOf_2 {p : Program} {l : Launch} {e : Env} {R : Room} {s : State} {m : MethodId} {args : Array Value} {below : List Frame} {meth : Method} {c : Code} {base : Nat} {D : va_G} {dA : Nat → ClassId} {σ0 : PH} {z : Int32 × PH} {F : Nat} (E : x_E p s m args c cX0_feeOf 3 "WireMoney$Bands" D dA) (hr : meth.sig.returnType = (some .int)) (hk : meth.locks = false) (hfr : R.frames = 1) (hlo : R.locals = 21) : ∀ (n : Nat) (y0 : Option Nat) (y1 : Int32) (y2 : Int32) (σ : PH) (H : Heap) (locs : List Loc) (ls : Array Slot), x_S base D dA R s σ0 z.2 σ H locs → x_rn (mX0_feeOf_2 F n y0 y1 y2) σ = some z → x_lv ls 3 [(0, .inr (.inl y0)), (1, .inl y1), (2, .inl y2)] → W p l e R s m args below meth c H locs (x_N σ - x_N σ0) (x_U σ - x_U σ0) (x_end below args s base D dA (fun x => some (.int x)) σ0 z) (F0 m 2 ls []) := by
  intro n
  induction n with
  | zero =>
    intro y0 y1 y2 σ H locs ls S hM hl
    cases hM
  | succ n ih =>
    intro y0 y1 y2 σ H locs ls S hM hl
    rw [mX0_feeOf_2] at hM
    refine w_iload_n E hl 2 dX0_feeOf_2 rfl ?_
    refine w_aload_n E hl 0 dX0_feeOf_3 rfl ?_
    refine w_rI E S hM lk_0_18 rfl dX0_feeOf_4 (fun v4 hM => ?_)
    refine lv_icmp_ge (tgt := 39) E.1 E.2.1 dX0_feeOf_7 (by decide) (fun c7 => ?_) (fun c7 => ?_)
    · replace hM := x_okT hM c7
      refine lv_iconst (v := (1 : Int32)) E.1 E.2.1 dX0_feeOf_39 (by decide) ?_
      refine w_iload_n E hl 1 dX0_feeOf_40 rfl ?_
      refine lv_bipush (v := (100 : Int32)) E.1 E.2.1 dX0_feeOf_41 (by decide) ?_
      refine lv_idiv E.1 E.2.1 dX0_feeOf_43 (by decide) ?_
      refine w_mmax E S hl ⟨wd_284, wd_285, wd_8, wd_286⟩ (by rw [hfr, hlo]; decide) (Nat.le_of_ble_eq_true rfl) dX0_feeOf_44 ?_
      exact w_iret E S hM hr hk dX0_feeOf_47
    · replace hM := x_okF hM c7
      refine w_iload_n E hl 2 dX0_feeOf_10 rfl ?_
      refine lv_bipush (v := (8 : Int32)) E.1 E.2.1 dX0_feeOf_11 (by decide) ?_
      refine lv_icmp_ge (tgt := 39) E.1 E.2.1 dX0_feeOf_13 (by decide) (fun c13 => ?_) (fun c13 => ?_)
      · replace hM := x_okT hM c13
        refine lv_iconst (v := (1 : Int32)) E.1 E.2.1 dX0_feeOf_39 (by decide) ?_
        refine w_iload_n E hl 1 dX0_feeOf_40 rfl ?_
        refine lv_bipush (v := (100 : Int32)) E.1 E.2.1 dX0_feeOf_41 (by decide) ?_
        refine lv_idiv E.1 E.2.1 dX0_feeOf_43 (by decide) ?_
        refine w_mmax E S hl ⟨wd_284, wd_285, wd_8, wd_286⟩ (by rw [hfr, hlo]; decide) (Nat.le_of_ble_eq_true rfl) dX0_feeOf_44 ?_
        exact w_iret E S hM hr hk dX0_feeOf_47
      · replace hM := x_okF hM c13
        refine w_aload_n E hl 0 dX0_feeOf_16 rfl ?_
        refine w_rR E S hM lk_0_9 rfl dX0_feeOf_17 (fun v17 hM => ?_)
        refine w_iload_n E hl 2 dX0_feeOf_20 rfl ?_
        refine w_aI E S hM dX0_feeOf_21 (fun v21 hM => ?_)
        refine w_iload_n E hl 1 dX0_feeOf_22 rfl ?_
        refine lv_icmp_lt (tgt := 33) E.1 E.2.1 dX0_feeOf_23 (by decide) (fun c23 => ?_) (fun c23 => ?_)
        · replace hM := x_okT hM c23
          refine w_iincN (ltf := fun v33 => [(2, .inl v33), (0, .inr (.inl y0)), (1, .inl y1)]) E hl 2 hM dX0_feeOf_33 rfl (by decide) (by decide) (fun _ => rfl) (fun v33 ls hM hl => ?_)
          refine lv_goto (tgt := 2) E.1 E.2.1 dX0_feeOf_36 (by decide) ?_
          exact ih y0 y1 v33 _ _ _ _ S hM (x_lv_sub hl [1, 2, 0] rfl)
        · replace hM := x_okF hM c23
          refine w_aload_n E hl 0 dX0_feeOf_26 rfl ?_
          refine w_rR E S hM lk_0_15 rfl dX0_feeOf_27 (fun v27 hM => ?_)
          refine w_iload_n E hl 2 dX0_feeOf_30 rfl ?_
          refine w_aI E S hM dX0_feeOf_31 (fun v31 hM => ?_)
          exact w_iret E S hM hr hk dX0_feeOf_32
theorem mcX0_feeOf : x_mc yX0_feeOf cX0_feeOf 3 (some .int) 1 := ⟨wd_283, wd_3, by decide +kernel⟩
set_option maxHeartbeats 4000000 in
set_option maxRecDepth 100000 in
theorem kX0_feeOf (l : Launch) (base : Nat) (D : va_G) (dA : Nat → ClassId) (F : Nat) (r0 : Option Nat) (x1 : Int32) : x_Met l base D dA yX0_feeOf cX0_feeOf 3 (some .int) 1 21 [va_rf r0, .int x1] (mX0_feeOf F r0 x1) (fun x => some (.int x)) := by
  refine x_Met.of [(0, .inr (.inl r0)), (1, .inl x1)] (by decide) (Nat.le_of_ble_eq_true rfl) rfl rfl ?_
  intro p e R s m args below meth c σ a τ ls hfr hlo E hr hk hn S hM hl
  have E : x_E p s m args c cX0_feeOf 3 "WireMoney$Bands" D dA := E
  unfold mX0_feeOf at hM
  refine lv_iconst (v := (0 : Int32)) E.1 E.2.1 dX0_feeOf_0 (by decide) ?_
  refine w_istore_n (lt' := [(2, .inl (0 : Int32)), (0, .inr (.inl r0)), (1, .inl x1)]) E hl dX0_feeOf_1 (by decide) rfl (fun ls hl => ?_)
  exact bX0_feeOf_2 E hr hk hfr hlo F r0 x1 (0 : Int32) _ _ _ _ S hM (x_lv_sub hl [1, 2, 0] rfl)
theorem dX1_init_0 : decode cX1_init 0 = .ok (.aload_n 0, 1) := by decide +kernel
theorem dX1_init_1 : decode cX1_init 1 = .ok (.invokespecial 3, 3) := by decide +kernel
theorem dX1_init_4 : decode cX1_init 4 = .ok (.aload_n 0, 1) := by decide +kernel
theorem dX1_init_5 : decode cX1_init 5 = .ok (.iload_n 1, 1) := by decide +kernel
theorem dX1_init_6 : decode cX1_init 6 = .ok (.putfield 9, 3) := by decide +kernel
theorem dX1_init_9 : decode cX1_init 9 = .ok (.aload_n 0, 1) := by decide +kernel
theorem dX1_init_10 : decode cX1_init 10 = .ok (.iload_n 2, 1) := by decide +kernel
theorem dX1_init_11 : decode cX1_init 11 = .ok (.putfield 15, 3) := by decide +kernel
theorem dX1_init_14 : decode cX1_init 14 = .ok (.aload_n 0, 1) := by decide +kernel
theorem dX1_init_15 : decode cX1_init 15 = .ok (.iload_n 3, 1) := by decide +kernel
theorem dX1_init_16 : decode cX1_init 16 = .ok (.putfield 18, 3) := by decide +kernel
theorem dX1_init_19 : decode cX1_init 19 = .ok (.aload_n 0, 1) := by decide +kernel
theorem dX1_init_20 : decode cX1_init 20 = .ok (.iload 4, 2) := by decide +kernel
theorem dX1_init_22 : decode cX1_init 22 = .ok (.putfield 21, 3) := by decide +kernel
theorem dX1_init_25 : decode cX1_init 25 = .ok (.return_, 1) := by decide +kernel
theorem mcX1_init : x_mc yX1_init cX1_init 5 none 4 := ⟨wd_125, wd_5, by decide +kernel⟩
set_option maxHeartbeats 4000000 in
set_option maxRecDepth 100000 in
theorem kX1_init (l : Launch) (base : Nat) (D : va_G) (dA : Nat → ClassId) (F : Nat) (r0 : Nat) (x1 : Int32) (x2 : Int32) (x3 : Int32) (x4 : Int32) : x_Met l base D dA yX1_init cX1_init 5 none 1 21 [va_rf (some r0), .int x1, .int x2, .int x3, .int x4] (mX1_init F (some r0) x1 x2 x3 x4) (fun _ => none) := by
  refine x_Met.of [(0, .inr (.inl (some r0))), (1, .inl x1), (2, .inl x2), (3, .inl x3), (4, .inl x4)] (by decide) (Nat.le_of_ble_eq_true rfl) rfl rfl ?_
  intro p e R s m args below meth c σ a τ ls hfr hlo E hr hk hn S hM hl
  have E : x_E p s m args c cX1_init 5 "WireMoney$Counter" D dA := E
  unfold mX1_init at hM
  refine w_aload_n E hl 0 dX1_init_0 rfl ?_
  refine w_obj E hl ⟨wd_126, wd_18, wd_19⟩ (by rw [hfr, hlo]; decide) (Nat.le_of_ble_eq_true rfl) dX1_init_1 ?_
  refine w_aload_n E hl 0 dX1_init_4 rfl ?_
  refine w_iload_n E hl 1 dX1_init_5 rfl ?_
  refine w_wI E S hM lk_1_9 rfl (Or.inr ⟨hn, rfl, rfl⟩) dX1_init_6 (fun σ H locs S hM => ?_)
  refine w_aload_n E hl 0 dX1_init_9 rfl ?_
  refine w_iload_n E hl 2 dX1_init_10 rfl ?_
  refine w_wI E S hM lk_1_15 rfl (Or.inl rfl) dX1_init_11 (fun σ H locs S hM => ?_)
  refine w_aload_n E hl 0 dX1_init_14 rfl ?_
  refine w_iload_n E hl 3 dX1_init_15 rfl ?_
  refine w_wI E S hM lk_1_18 rfl (Or.inr ⟨hn, rfl, rfl⟩) dX1_init_16 (fun σ H locs S hM => ?_)
  refine w_aload_n E hl 0 dX1_init_19 rfl ?_
  refine w_iload E hl 4 dX1_init_20 rfl ?_
  refine w_wI E S hM lk_1_21 rfl (Or.inr ⟨hn, rfl, rfl⟩) dX1_init_22 (fun σ H locs S hM => ?_)
  exact w_vret E S hM hr hk dX1_init_25
theorem dX1_isOpen_0 : decode cX1_isOpen 0 = .ok (.iload_n 1, 1) := by decide +kernel
theorem dX1_isOpen_1 : decode cX1_isOpen 1 = .ok (.sipush 1440, 3) := by decide +kernel
theorem dX1_isOpen_4 : decode cX1_isOpen 4 = .ok (.irem, 1) := by decide +kernel
theorem dX1_isOpen_5 : decode cX1_isOpen 5 = .ok (.istore_n 2, 1) := by decide +kernel
theorem dX1_isOpen_6 : decode cX1_isOpen 6 = .ok (.iload_n 2, 1) := by decide +kernel
theorem dX1_isOpen_7 : decode cX1_isOpen 7 = .ok (.aload_n 0, 1) := by decide +kernel
theorem dX1_isOpen_8 : decode cX1_isOpen 8 = .ok (.getfield 18, 3) := by decide +kernel
theorem dX1_isOpen_11 : decode cX1_isOpen 11 = .ok (.if_icmp .lt 15, 3) := by decide +kernel
theorem dX1_isOpen_14 : decode cX1_isOpen 14 = .ok (.iload_n 2, 1) := by decide +kernel
theorem dX1_isOpen_15 : decode cX1_isOpen 15 = .ok (.aload_n 0, 1) := by decide +kernel
theorem dX1_isOpen_16 : decode cX1_isOpen 16 = .ok (.getfield 21, 3) := by decide +kernel
theorem dX1_isOpen_19 : decode cX1_isOpen 19 = .ok (.if_icmp .ge 7, 3) := by decide +kernel
theorem dX1_isOpen_22 : decode cX1_isOpen 22 = .ok (.iconst 1, 1) := by decide +kernel
theorem dX1_isOpen_23 : decode cX1_isOpen 23 = .ok (.goto 4, 3) := by decide +kernel
theorem dX1_isOpen_26 : decode cX1_isOpen 26 = .ok (.iconst 0, 1) := by decide +kernel
theorem dX1_isOpen_27 : decode cX1_isOpen 27 = .ok (.ireturn, 1) := by decide +kernel
theorem mcX1_isOpen : x_mc yX1_isOpen cX1_isOpen 3 (some .boolean) 1 := ⟨wd_294, wd_5, by decide +kernel⟩
set_option maxHeartbeats 4000000 in
set_option maxRecDepth 100000 in
theorem kX1_isOpen (l : Launch) (base : Nat) (D : va_G) (dA : Nat → ClassId) (F : Nat) (r0 : Option Nat) (x1 : Int32) : x_Met l base D dA yX1_isOpen cX1_isOpen 3 (some .boolean) 0 0 [va_rf r0, .int x1] (mX1_isOpen F r0 x1) (fun x => some (.int x)) := by
  refine x_Met.of [(0, .inr (.inl r0)), (1, .inl x1)] (by decide) (Nat.le_of_ble_eq_true rfl) rfl rfl ?_
  intro p e R s m args below meth c σ a τ ls hfr hlo E hr hk hn S hM hl
  have E : x_E p s m args c cX1_isOpen 3 "WireMoney$Counter" D dA := E
  unfold mX1_isOpen at hM
  refine w_iload_n E hl 1 dX1_isOpen_0 rfl ?_
  refine lv_sipush (v := (1440 : Int32)) E.1 E.2.1 dX1_isOpen_1 (by decide) ?_
  refine w_irem E dX1_isOpen_4 (by decide) ?_
  refine w_nm hM (fun v5 hM => ?_)
  refine w_istore_n (lt' := [(2, .inl v5), (0, .inr (.inl r0)), (1, .inl x1)]) E hl dX1_isOpen_5 (by decide) rfl (fun ls hl => ?_)
  refine w_iload_n E hl 0 dX1_isOpen_6 rfl ?_
  refine w_aload_n E hl 1 dX1_isOpen_7 rfl ?_
  refine w_rI E S hM lk_1_18 rfl dX1_isOpen_8 (fun v8 hM => ?_)
  refine lv_icmp_lt (tgt := 26) E.1 E.2.1 dX1_isOpen_11 (by decide) (fun c11 => ?_) (fun c11 => ?_)
  · replace hM := x_okT hM c11
    refine lv_iconst (v := (0 : Int32)) E.1 E.2.1 dX1_isOpen_26 (by decide) ?_
    exact w_zretc E S hM (by decide) hr hk dX1_isOpen_27
  · replace hM := x_okF hM c11
    refine w_iload_n E hl 0 dX1_isOpen_14 rfl ?_
    refine w_aload_n E hl 1 dX1_isOpen_15 rfl ?_
    refine w_rI E S hM lk_1_21 rfl dX1_isOpen_16 (fun v16 hM => ?_)
    refine lv_icmp_ge (tgt := 26) E.1 E.2.1 dX1_isOpen_19 (by decide) (fun c19 => ?_) (fun c19 => ?_)
    · replace hM := x_okT hM c19
      refine lv_iconst (v := (0 : Int32)) E.1 E.2.1 dX1_isOpen_26 (by decide) ?_
      exact w_zretc E S hM (by decide) hr hk dX1_isOpen_27
    · replace hM := x_okF hM c19
      refine lv_iconst (v := (1 : Int32)) E.1 E.2.1 dX1_isOpen_22 (by decide) ?_
      refine lv_goto (tgt := 27) E.1 E.2.1 dX1_isOpen_23 (by decide) ?_
      exact w_zretc E S hM (by decide) hr hk dX1_isOpen_27
theorem dX2_init_0 : decode cX2_init 0 = .ok (.aload_n 0, 1) := by decide +kernel
theorem dX2_init_1 : decode cX2_init 1 = .ok (.invokespecial 3, 3) := by decide +kernel
theorem dX2_init_4 : decode cX2_init 4 = .ok (.aload_n 0, 1) := by decide +kernel
theorem dX2_init_5 : decode cX2_init 5 = .ok (.iload_n 1, 1) := by decide +kernel
theorem dX2_init_6 : decode cX2_init 6 = .ok (.putfield 9, 3) := by decide +kernel
theorem dX2_init_9 : decode cX2_init 9 = .ok (.aload_n 0, 1) := by decide +kernel
theorem dX2_init_10 : decode cX2_init 10 = .ok (.aload_n 2, 1) := by decide +kernel
theorem dX2_init_11 : decode cX2_init 11 = .ok (.putfield 15, 3) := by decide +kernel
theorem dX2_init_14 : decode cX2_init 14 = .ok (.aload_n 0, 1) := by decide +kernel
theorem dX2_init_15 : decode cX2_init 15 = .ok (.iload_n 3, 1) := by decide +kernel
theorem dX2_init_16 : decode cX2_init 16 = .ok (.ifCond .eq 10, 3) := by decide +kernel
theorem dX2_init_19 : decode cX2_init 19 = .ok (.aload_n 2, 1) := by decide +kernel
theorem dX2_init_20 : decode cX2_init 20 = .ok (.getfield 19, 3) := by decide +kernel
theorem dX2_init_23 : decode cX2_init 23 = .ok (.goto 7, 3) := by decide +kernel
theorem dX2_init_26 : decode cX2_init 26 = .ok (.aload_n 2, 1) := by decide +kernel
theorem dX2_init_27 : decode cX2_init 27 = .ok (.getfield 25, 3) := by decide +kernel
theorem dX2_init_30 : decode cX2_init 30 = .ok (.putfield 28, 3) := by decide +kernel
theorem dX2_init_33 : decode cX2_init 33 = .ok (.aload_n 0, 1) := by decide +kernel
theorem dX2_init_34 : decode cX2_init 34 = .ok (.iload_n 3, 1) := by decide +kernel
theorem dX2_init_35 : decode cX2_init 35 = .ok (.ifCond .eq 10, 3) := by decide +kernel
theorem dX2_init_38 : decode cX2_init 38 = .ok (.aload_n 2, 1) := by decide +kernel
theorem dX2_init_39 : decode cX2_init 39 = .ok (.getfield 25, 3) := by decide +kernel
theorem dX2_init_42 : decode cX2_init 42 = .ok (.goto 7, 3) := by decide +kernel
theorem dX2_init_45 : decode cX2_init 45 = .ok (.aload_n 2, 1) := by decide +kernel
theorem dX2_init_46 : decode cX2_init 46 = .ok (.getfield 19, 3) := by decide +kernel
theorem dX2_init_49 : decode cX2_init 49 = .ok (.putfield 29, 3) := by decide +kernel
theorem dX2_init_52 : decode cX2_init 52 = .ok (.aload_n 0, 1) := by decide +kernel
theorem dX2_init_53 : decode cX2_init 53 = .ok (.aload 4, 2) := by decide +kernel
theorem dX2_init_55 : decode cX2_init 55 = .ok (.putfield 30, 3) := by decide +kernel
theorem dX2_init_58 : decode cX2_init 58 = .ok (.aload_n 0, 1) := by decide +kernel
theorem dX2_init_59 : decode cX2_init 59 = .ok (.aload_n 0, 1) := by decide +kernel
theorem dX2_init_60 : decode cX2_init 60 = .ok (.getfield 28, 3) := by decide +kernel
theorem dX2_init_63 : decode cX2_init 63 = .ok (.putfield 34, 3) := by decide +kernel
theorem dX2_init_66 : decode cX2_init 66 = .ok (.aload_n 0, 1) := by decide +kernel
theorem dX2_init_67 : decode cX2_init 67 = .ok (.iconst (-1), 1) := by decide +kernel
theorem dX2_init_68 : decode cX2_init 68 = .ok (.putfield 37, 3) := by decide +kernel
theorem dX2_init_71 : decode cX2_init 71 = .ok (.aload_n 0, 1) := by decide +kernel
theorem dX2_init_72 : decode cX2_init 72 = .ok (.iconst (-1), 1) := by decide +kernel
theorem dX2_init_73 : decode cX2_init 73 = .ok (.putfield 40, 3) := by decide +kernel
theorem dX2_init_76 : decode cX2_init 76 = .ok (.return_, 1) := by decide +kernel
set_option maxHeartbeats 4000000 in
set_option maxRecDepth 100000 in
theorem bX2_init_49 {p : Program} {l : Launch} {e : Env} {R : Room} {s : State} {m : MethodId} {args : Array Value} {below : List Frame} {meth : Method} {c : Code} {base : Nat} {D : va_G} {dA : Nat → ClassId} {σ0 : PH} {z : Unit × PH} {F : Nat} (E : x_E p s m args c cX2_init 5 "WireMoney$Message" D dA) (hr : meth.sig.returnType = none) (hk : meth.locks = false) (hn : meth.name = "<init>") (hfr : R.frames = 1) (hlo : R.locals = 21) : ∀ (y0 : Nat) (y4 : Option Nat) (t0 : Option Nat) (t1 : Option Nat) (σ : PH) (H : Heap) (locs : List Loc) (ls : Array Slot), x_S base D dA R s σ0 z.2 σ H locs → x_rn (mX2_init_49 F (some y0) y4 t0 t1) σ = some z → x_lv ls 5 [(0, .inr (.inl (some y0))), (4, .inr (.inl y4))] → W p l e R s m args below meth c H locs (x_N σ - x_N σ0) (x_U σ - x_U σ0) (x_end below args s base D dA (fun _ => none) σ0 z) (F0 m 49 ls [va_rf t0, va_rf t1]) := by
  intro y0 y4 t0 t1 σ H locs ls S hM hl
  unfold mX2_init_49 at hM
  refine w_wR E S hM lk_2_29 rfl (Or.inr ⟨hn, rfl, rfl⟩) dX2_init_49 (fun σ H locs S hM => ?_)
  refine w_aload_n E hl 0 dX2_init_52 rfl ?_
  refine w_aload E hl 1 dX2_init_53 rfl ?_
  refine w_wR E S hM lk_2_30 rfl (Or.inr ⟨hn, rfl, rfl⟩) dX2_init_55 (fun σ H locs S hM => ?_)
  refine w_aload_n E hl 0 dX2_init_58 rfl ?_
  refine w_aload_n E hl 0 dX2_init_59 rfl ?_
  refine w_rR E S hM lk_2_28 rfl dX2_init_60 (fun v60 hM => ?_)
  refine w_wR E S hM lk_2_34 rfl (Or.inl rfl) dX2_init_63 (fun σ H locs S hM => ?_)
  refine w_aload_n E hl 0 dX2_init_66 rfl ?_
  refine lv_iconst (v := (-1 : Int32)) E.1 E.2.1 dX2_init_67 (by decide) ?_
  refine w_wI E S hM lk_2_37 rfl (Or.inl rfl) dX2_init_68 (fun σ H locs S hM => ?_)
  refine w_aload_n E hl 0 dX2_init_71 rfl ?_
  refine lv_iconst (v := (-1 : Int32)) E.1 E.2.1 dX2_init_72 (by decide) ?_
  refine w_wI E S hM lk_2_40 rfl (Or.inl rfl) dX2_init_73 (fun σ H locs S hM => ?_)
  exact w_vret E S hM hr hk dX2_init_76
set_option maxHeartbeats 4000000 in
set_option maxRecDepth 100000 in
theorem bX2_init_30 {p : Program} {l : Launch} {e : Env} {R : Room} {s : State} {m : MethodId} {args : Array Value} {below : List Frame} {meth : Method} {c : Code} {base : Nat} {D : va_G} {dA : Nat → ClassId} {σ0 : PH} {z : Unit × PH} {F : Nat} (E : x_E p s m args c cX2_init 5 "WireMoney$Message" D dA) (hr : meth.sig.returnType = none) (hk : meth.locks = false) (hn : meth.name = "<init>") (hfr : R.frames = 1) (hlo : R.locals = 21) : ∀ (y0 : Nat) (y2 : Option Nat) (y3 : Int32) (y4 : Option Nat) (t0 : Option Nat) (t1 : Option Nat) (σ : PH) (H : Heap) (locs : List Loc) (ls : Array Slot), x_S base D dA R s σ0 z.2 σ H locs → x_rn (mX2_init_30 F (some y0) y2 y3 y4 t0 t1) σ = some z → x_lv ls 5 [(0, .inr (.inl (some y0))), (2, .inr (.inl y2)), (3, .inl y3), (4, .inr (.inl y4))] → W p l e R s m args below meth c H locs (x_N σ - x_N σ0) (x_U σ - x_U σ0) (x_end below args s base D dA (fun _ => none) σ0 z) (F0 m 30 ls [va_rf t0, va_rf t1]) := by
  intro y0 y2 y3 y4 t0 t1 σ H locs ls S hM hl
  unfold mX2_init_30 at hM
  refine w_wR E S hM lk_2_28 rfl (Or.inr ⟨hn, rfl, rfl⟩) dX2_init_30 (fun σ H locs S hM => ?_)
  refine w_aload_n E hl 0 dX2_init_33 rfl ?_
  refine w_iload_n E hl 2 dX2_init_34 rfl ?_
  refine lv_if_eq (tgt := 45) E.1 E.2.1 dX2_init_35 (by decide) (fun c35 => ?_) (fun c35 => ?_)
  · replace hM := x_okT hM c35
    refine w_aload_n E hl 1 dX2_init_45 rfl ?_
    refine w_rR E S hM lk_2_19 rfl dX2_init_46 (fun v46 hM => ?_)
    exact bX2_init_49 E hr hk hn hfr hlo y0 y4 v46 (some y0) _ _ _ _ S hM (x_lv_sub hl [0, 3] rfl)
  · replace hM := x_okF hM c35
    refine w_aload_n E hl 1 dX2_init_38 rfl ?_
    refine w_rR E S hM lk_2_25 rfl dX2_init_39 (fun v39 hM => ?_)
    refine lv_goto (tgt := 49) E.1 E.2.1 dX2_init_42 (by decide) ?_
    exact bX2_init_49 E hr hk hn hfr hlo y0 y4 v39 (some y0) _ _ _ _ S hM (x_lv_sub hl [0, 3] rfl)
theorem mcX2_init : x_mc yX2_init cX2_init 5 none 4 := ⟨wd_391, wd_11, by decide +kernel⟩
set_option maxHeartbeats 4000000 in
set_option maxRecDepth 100000 in
theorem kX2_init (l : Launch) (base : Nat) (D : va_G) (dA : Nat → ClassId) (F : Nat) (r0 : Nat) (x1 : Int32) (r2 : Option Nat) (x3 : Int32) (r4 : Option Nat) : x_Met l base D dA yX2_init cX2_init 5 none 1 21 [va_rf (some r0), .int x1, va_rf r2, .int x3, va_rf r4] (mX2_init F (some r0) x1 r2 x3 r4) (fun _ => none) := by
  refine x_Met.of [(0, .inr (.inl (some r0))), (1, .inl x1), (2, .inr (.inl r2)), (3, .inl x3), (4, .inr (.inl r4))] (by decide) (Nat.le_of_ble_eq_true rfl) rfl rfl ?_
  intro p e R s m args below meth c σ a τ ls hfr hlo E hr hk hn S hM hl
  have E : x_E p s m args c cX2_init 5 "WireMoney$Message" D dA := E
  unfold mX2_init at hM
  refine w_aload_n E hl 0 dX2_init_0 rfl ?_
  refine w_obj E hl ⟨wd_392, wd_18, wd_19⟩ (by rw [hfr, hlo]; decide) (Nat.le_of_ble_eq_true rfl) dX2_init_1 ?_
  refine w_aload_n E hl 0 dX2_init_4 rfl ?_
  refine w_iload_n E hl 1 dX2_init_5 rfl ?_
  refine w_wI E S hM lk_2_9 rfl (Or.inr ⟨hn, rfl, rfl⟩) dX2_init_6 (fun σ H locs S hM => ?_)
  refine w_aload_n E hl 0 dX2_init_9 rfl ?_
  refine w_aload_n E hl 2 dX2_init_10 rfl ?_
  refine w_wR E S hM lk_2_15 rfl (Or.inr ⟨hn, rfl, rfl⟩) dX2_init_11 (fun σ H locs S hM => ?_)
  refine w_aload_n E hl 0 dX2_init_14 rfl ?_
  refine w_iload_n E hl 3 dX2_init_15 rfl ?_
  refine lv_if_eq (tgt := 26) E.1 E.2.1 dX2_init_16 (by decide) (fun c16 => ?_) (fun c16 => ?_)
  · replace hM := x_okT hM c16
    refine w_aload_n E hl 2 dX2_init_26 rfl ?_
    refine w_rR E S hM lk_2_25 rfl dX2_init_27 (fun v27 hM => ?_)
    exact bX2_init_30 E hr hk hn hfr hlo r0 r2 x3 r4 v27 (some r0) _ _ _ _ S hM (x_lv_sub hl [0, 2, 3, 4] rfl)
  · replace hM := x_okF hM c16
    refine w_aload_n E hl 2 dX2_init_19 rfl ?_
    refine w_rR E S hM lk_2_19 rfl dX2_init_20 (fun v20 hM => ?_)
    refine lv_goto (tgt := 30) E.1 E.2.1 dX2_init_23 (by decide) ?_
    exact bX2_init_30 E hr hk hn hfr hlo r0 r2 x3 r4 v20 (some r0) _ _ _ _ S hM (x_lv_sub hl [0, 2, 3, 4] rfl)
theorem dX2_isRead_0 : decode cX2_isRead 0 = .ok (.aload_n 0, 1) := by decide +kernel
theorem dX2_isRead_1 : decode cX2_isRead 1 = .ok (.getfield 40, 3) := by decide +kernel
theorem dX2_isRead_4 : decode cX2_isRead 4 = .ok (.iconst (-1), 1) := by decide +kernel
theorem dX2_isRead_5 : decode cX2_isRead 5 = .ok (.if_icmp .eq 7, 3) := by decide +kernel
theorem dX2_isRead_8 : decode cX2_isRead 8 = .ok (.iconst 1, 1) := by decide +kernel
theorem dX2_isRead_9 : decode cX2_isRead 9 = .ok (.goto 4, 3) := by decide +kernel
theorem dX2_isRead_12 : decode cX2_isRead 12 = .ok (.iconst 0, 1) := by decide +kernel
theorem dX2_isRead_13 : decode cX2_isRead 13 = .ok (.ireturn, 1) := by decide +kernel
theorem mcX2_isRead : x_mc yX2_isRead cX2_isRead 1 (some .boolean) 0 := ⟨wd_486, wd_11, by decide +kernel⟩
set_option maxHeartbeats 4000000 in
set_option maxRecDepth 100000 in
theorem kX2_isRead (l : Launch) (base : Nat) (D : va_G) (dA : Nat → ClassId) (F : Nat) (r0 : Option Nat) : x_Met l base D dA yX2_isRead cX2_isRead 1 (some .boolean) 0 0 [va_rf r0] (mX2_isRead F r0) (fun x => some (.int x)) := by
  refine x_Met.of [(0, .inr (.inl r0))] (by decide) (Nat.le_of_ble_eq_true rfl) rfl rfl ?_
  intro p e R s m args below meth c σ a τ ls hfr hlo E hr hk hn S hM hl
  have E : x_E p s m args c cX2_isRead 1 "WireMoney$Message" D dA := E
  unfold mX2_isRead at hM
  refine w_aload_n E hl 0 dX2_isRead_0 rfl ?_
  refine w_rI E S hM lk_2_40 rfl dX2_isRead_1 (fun v1 hM => ?_)
  refine lv_iconst (v := (-1 : Int32)) E.1 E.2.1 dX2_isRead_4 (by decide) ?_
  refine lv_icmp_eq (tgt := 12) E.1 E.2.1 dX2_isRead_5 (by decide) (fun c5 => ?_) (fun c5 => ?_)
  · replace hM := x_okT hM c5
    refine lv_iconst (v := (0 : Int32)) E.1 E.2.1 dX2_isRead_12 (by decide) ?_
    exact w_zretc E S hM (by decide) hr hk dX2_isRead_13
  · replace hM := x_okF hM c5
    refine lv_iconst (v := (1 : Int32)) E.1 E.2.1 dX2_isRead_8 (by decide) ?_
    refine lv_goto (tgt := 13) E.1 E.2.1 dX2_isRead_9 (by decide) ?_
    exact w_zretc E S hM (by decide) hr hk dX2_isRead_13
theorem dX2_enterWire_0 : decode cX2_enterWire 0 = .ok (.aload_n 0, 1) := by decide +kernel
theorem dX2_enterWire_1 : decode cX2_enterWire 1 = .ok (.aconst_null, 1) := by decide +kernel
theorem dX2_enterWire_2 : decode cX2_enterWire 2 = .ok (.putfield 34, 3) := by decide +kernel
theorem dX2_enterWire_5 : decode cX2_enterWire 5 = .ok (.aload_n 0, 1) := by decide +kernel
theorem dX2_enterWire_6 : decode cX2_enterWire 6 = .ok (.aload_n 1, 1) := by decide +kernel
theorem dX2_enterWire_7 : decode cX2_enterWire 7 = .ok (.putfield 43, 3) := by decide +kernel
theorem dX2_enterWire_10 : decode cX2_enterWire 10 = .ok (.aload_n 0, 1) := by decide +kernel
theorem dX2_enterWire_11 : decode cX2_enterWire 11 = .ok (.iload_n 2, 1) := by decide +kernel
theorem dX2_enterWire_12 : decode cX2_enterWire 12 = .ok (.putfield 37, 3) := by decide +kernel
theorem dX2_enterWire_15 : decode cX2_enterWire 15 = .ok (.return_, 1) := by decide +kernel
theorem mcX2_enterWire : x_mc yX2_enterWire cX2_enterWire 3 none 2 := ⟨wd_547, wd_11, by decide +kernel⟩
set_option maxHeartbeats 4000000 in
set_option maxRecDepth 100000 in
theorem kX2_enterWire (l : Launch) (base : Nat) (D : va_G) (dA : Nat → ClassId) (F : Nat) (r0 : Option Nat) (r1 : Option Nat) (x2 : Int32) : x_Met l base D dA yX2_enterWire cX2_enterWire 3 none 0 0 [va_rf r0, va_rf r1, .int x2] (mX2_enterWire F r0 r1 x2) (fun _ => none) := by
  refine x_Met.of [(0, .inr (.inl r0)), (1, .inr (.inl r1)), (2, .inl x2)] (by decide) (Nat.le_of_ble_eq_true rfl) rfl rfl ?_
  intro p e R s m args below meth c σ a τ ls hfr hlo E hr hk hn S hM hl
  have E : x_E p s m args c cX2_enterWire 3 "WireMoney$Message" D dA := E
  unfold mX2_enterWire at hM
  refine w_aload_n E hl 0 dX2_enterWire_0 rfl ?_
  refine w_null E dX2_enterWire_1 ?_
  refine w_wR E S hM lk_2_34 rfl (Or.inl rfl) dX2_enterWire_2 (fun σ H locs S hM => ?_)
  refine w_aload_n E hl 0 dX2_enterWire_5 rfl ?_
  refine w_aload_n E hl 1 dX2_enterWire_6 rfl ?_
  refine w_wR E S hM lk_2_43 rfl (Or.inl rfl) dX2_enterWire_7 (fun σ H locs S hM => ?_)
  refine w_aload_n E hl 0 dX2_enterWire_10 rfl ?_
  refine w_iload_n E hl 2 dX2_enterWire_11 rfl ?_
  refine w_wI E S hM lk_2_37 rfl (Or.inl rfl) dX2_enterWire_12 (fun σ H locs S hM => ?_)
  exact w_vret E S hM hr hk dX2_enterWire_15
theorem dX2_leaveWire_0 : decode cX2_leaveWire 0 = .ok (.aload_n 0, 1) := by decide +kernel
theorem dX2_leaveWire_1 : decode cX2_leaveWire 1 = .ok (.aload_n 0, 1) := by decide +kernel
theorem dX2_leaveWire_2 : decode cX2_leaveWire 2 = .ok (.getfield 43, 3) := by decide +kernel
theorem dX2_leaveWire_5 : decode cX2_leaveWire 5 = .ok (.putfield 34, 3) := by decide +kernel
theorem dX2_leaveWire_8 : decode cX2_leaveWire 8 = .ok (.aload_n 0, 1) := by decide +kernel
theorem dX2_leaveWire_9 : decode cX2_leaveWire 9 = .ok (.aconst_null, 1) := by decide +kernel
theorem dX2_leaveWire_10 : decode cX2_leaveWire 10 = .ok (.putfield 43, 3) := by decide +kernel
theorem dX2_leaveWire_13 : decode cX2_leaveWire 13 = .ok (.aload_n 0, 1) := by decide +kernel
theorem dX2_leaveWire_14 : decode cX2_leaveWire 14 = .ok (.iconst (-1), 1) := by decide +kernel
theorem dX2_leaveWire_15 : decode cX2_leaveWire 15 = .ok (.putfield 37, 3) := by decide +kernel
theorem dX2_leaveWire_18 : decode cX2_leaveWire 18 = .ok (.return_, 1) := by decide +kernel
theorem mcX2_leaveWire : x_mc yX2_leaveWire cX2_leaveWire 1 none 0 := ⟨wd_503, wd_11, by decide +kernel⟩
set_option maxHeartbeats 4000000 in
set_option maxRecDepth 100000 in
theorem kX2_leaveWire (l : Launch) (base : Nat) (D : va_G) (dA : Nat → ClassId) (F : Nat) (r0 : Option Nat) : x_Met l base D dA yX2_leaveWire cX2_leaveWire 1 none 0 0 [va_rf r0] (mX2_leaveWire F r0) (fun _ => none) := by
  refine x_Met.of [(0, .inr (.inl r0))] (by decide) (Nat.le_of_ble_eq_true rfl) rfl rfl ?_
  intro p e R s m args below meth c σ a τ ls hfr hlo E hr hk hn S hM hl
  have E : x_E p s m args c cX2_leaveWire 1 "WireMoney$Message" D dA := E
  unfold mX2_leaveWire at hM
  refine w_aload_n E hl 0 dX2_leaveWire_0 rfl ?_
  refine w_aload_n E hl 0 dX2_leaveWire_1 rfl ?_
  refine w_rR E S hM lk_2_43 rfl dX2_leaveWire_2 (fun v2 hM => ?_)
  refine w_wR E S hM lk_2_34 rfl (Or.inl rfl) dX2_leaveWire_5 (fun σ H locs S hM => ?_)
  refine w_aload_n E hl 0 dX2_leaveWire_8 rfl ?_
  refine w_null E dX2_leaveWire_9 ?_
  refine w_wR E S hM lk_2_43 rfl (Or.inl rfl) dX2_leaveWire_10 (fun σ H locs S hM => ?_)
  refine w_aload_n E hl 0 dX2_leaveWire_13 rfl ?_
  refine lv_iconst (v := (-1 : Int32)) E.1 E.2.1 dX2_leaveWire_14 (by decide) ?_
  refine w_wI E S hM lk_2_37 rfl (Or.inl rfl) dX2_leaveWire_15 (fun σ H locs S hM => ?_)
  exact w_vret E S hM hr hk dX2_leaveWire_18
theorem dX3_init_0 : decode cX3_init 0 = .ok (.aload_n 0, 1) := by decide +kernel
theorem dX3_init_1 : decode cX3_init 1 = .ok (.invokespecial 3, 3) := by decide +kernel
theorem dX3_init_4 : decode cX3_init 4 = .ok (.aload_n 0, 1) := by decide +kernel
theorem dX3_init_5 : decode cX3_init 5 = .ok (.bipush 10, 2) := by decide +kernel
theorem dX3_init_7 : decode cX3_init 7 = .ok (.anewarray 9, 3) := by decide +kernel
theorem dX3_init_10 : decode cX3_init 10 = .ok (.putfield 11, 3) := by decide +kernel
theorem dX3_init_13 : decode cX3_init 13 = .ok (.aload_n 0, 1) := by decide +kernel
theorem dX3_init_14 : decode cX3_init 14 = .ok (.bipush 15, 2) := by decide +kernel
theorem dX3_init_16 : decode cX3_init 16 = .ok (.anewarray 17, 3) := by decide +kernel
theorem dX3_init_19 : decode cX3_init 19 = .ok (.putfield 19, 3) := by decide +kernel
theorem dX3_init_22 : decode cX3_init 22 = .ok (.aload_n 0, 1) := by decide +kernel
theorem dX3_init_23 : decode cX3_init 23 = .ok (.bipush 100, 2) := by decide +kernel
theorem dX3_init_25 : decode cX3_init 25 = .ok (.newarray .int, 2) := by decide +kernel
theorem dX3_init_27 : decode cX3_init 27 = .ok (.putfield 23, 3) := by decide +kernel
theorem dX3_init_30 : decode cX3_init 30 = .ok (.aload_n 0, 1) := by decide +kernel
theorem dX3_init_31 : decode cX3_init 31 = .ok (.bipush 100, 2) := by decide +kernel
theorem dX3_init_33 : decode cX3_init 33 = .ok (.anewarray 17, 3) := by decide +kernel
theorem dX3_init_36 : decode cX3_init 36 = .ok (.putfield 27, 3) := by decide +kernel
theorem dX3_init_39 : decode cX3_init 39 = .ok (.aload_n 0, 1) := by decide +kernel
theorem dX3_init_40 : decode cX3_init 40 = .ok (.bipush 100, 2) := by decide +kernel
theorem dX3_init_42 : decode cX3_init 42 = .ok (.anewarray 17, 3) := by decide +kernel
theorem dX3_init_45 : decode cX3_init 45 = .ok (.putfield 30, 3) := by decide +kernel
theorem dX3_init_48 : decode cX3_init 48 = .ok (.iconst 0, 1) := by decide +kernel
theorem dX3_init_49 : decode cX3_init 49 = .ok (.istore_n 1, 1) := by decide +kernel
theorem dX3_init_50 : decode cX3_init 50 = .ok (.iload_n 1, 1) := by decide +kernel
theorem dX3_init_51 : decode cX3_init 51 = .ok (.aload_n 0, 1) := by decide +kernel
theorem dX3_init_52 : decode cX3_init 52 = .ok (.getfield 23, 3) := by decide +kernel
theorem dX3_init_55 : decode cX3_init 55 = .ok (.arraylength, 1) := by decide +kernel
theorem dX3_init_56 : decode cX3_init 56 = .ok (.if_icmp .ge 42, 3) := by decide +kernel
theorem dX3_init_59 : decode cX3_init 59 = .ok (.iload_n 1, 1) := by decide +kernel
theorem dX3_init_60 : decode cX3_init 60 = .ok (.bipush 10, 2) := by decide +kernel
theorem dX3_init_62 : decode cX3_init 62 = .ok (.idiv, 1) := by decide +kernel
theorem dX3_init_63 : decode cX3_init 63 = .ok (.iload_n 1, 1) := by decide +kernel
theorem dX3_init_64 : decode cX3_init 64 = .ok (.bipush 10, 2) := by decide +kernel
theorem dX3_init_66 : decode cX3_init 66 = .ok (.irem, 1) := by decide +kernel
theorem dX3_init_67 : decode cX3_init 67 = .ok (.if_icmp .ne 7, 3) := by decide +kernel
theorem dX3_init_70 : decode cX3_init 70 = .ok (.iconst 1, 1) := by decide +kernel
theorem dX3_init_71 : decode cX3_init 71 = .ok (.goto 4, 3) := by decide +kernel
theorem dX3_init_74 : decode cX3_init 74 = .ok (.iconst 0, 1) := by decide +kernel
theorem dX3_init_75 : decode cX3_init 75 = .ok (.istore_n 2, 1) := by decide +kernel
theorem dX3_init_76 : decode cX3_init 76 = .ok (.aload_n 0, 1) := by decide +kernel
theorem dX3_init_77 : decode cX3_init 77 = .ok (.getfield 23, 3) := by decide +kernel
theorem dX3_init_80 : decode cX3_init 80 = .ok (.iload_n 1, 1) := by decide +kernel
theorem dX3_init_81 : decode cX3_init 81 = .ok (.iload_n 2, 1) := by decide +kernel
theorem dX3_init_82 : decode cX3_init 82 = .ok (.ifCond .eq 7, 3) := by decide +kernel
theorem dX3_init_85 : decode cX3_init 85 = .ok (.iconst 0, 1) := by decide +kernel
theorem dX3_init_86 : decode cX3_init 86 = .ok (.goto 5, 3) := by decide +kernel
theorem dX3_init_89 : decode cX3_init 89 = .ok (.ldc 33, 2) := by decide +kernel
theorem dX3_init_91 : decode cX3_init 91 = .ok (.iastore, 1) := by decide +kernel
theorem dX3_init_92 : decode cX3_init 92 = .ok (.iinc 1 1, 3) := by decide +kernel
theorem dX3_init_95 : decode cX3_init 95 = .ok (.goto (-45), 3) := by decide +kernel
theorem dX3_init_98 : decode cX3_init 98 = .ok (.return_, 1) := by decide +kernel
set_option maxHeartbeats 4000000 in
set_option maxRecDepth 100000 in
theorem bX3_init_50 {p : Program} {l : Launch} {e : Env} {R : Room} {s : State} {m : MethodId} {args : Array Value} {below : List Frame} {meth : Method} {c : Code} {base : Nat} {D : va_G} {dA : Nat → ClassId} {σ0 : PH} {z : Unit × PH} {F : Nat} (E : x_E p s m args c cX3_init 3 "WireMoney$Net" D dA) (hr : meth.sig.returnType = none) (hk : meth.locks = false) (hn : meth.name = "<init>") (hfr : R.frames = 1) (hlo : R.locals = 21) : ∀ (n : Nat) (y0 : Nat) (y1 : Int32) (σ : PH) (H : Heap) (locs : List Loc) (ls : Array Slot), x_S base D dA R s σ0 z.2 σ H locs → x_rn (mX3_init_50 F n (some y0) y1) σ = some z → x_lv ls 3 [(0, .inr (.inl (some y0))), (1, .inl y1)] → W p l e R s m args below meth c H locs (x_N σ - x_N σ0) (x_U σ - x_U σ0) (x_end below args s base D dA (fun _ => none) σ0 z) (F0 m 50 ls []) := by
  intro n
  induction n with
  | zero =>
    intro y0 y1 σ H locs ls S hM hl
    cases hM
  | succ n ih =>
    intro y0 y1 σ H locs ls S hM hl
    rw [mX3_init_50] at hM
    refine w_iload_n E hl 1 dX3_init_50 rfl ?_
    refine w_aload_n E hl 0 dX3_init_51 rfl ?_
    refine w_rR E S hM lk_3_23 rfl dX3_init_52 (fun v52 hM => ?_)
    refine w_aL E S hM (by decide) dX3_init_55 (fun v55 hM => ?_)
    refine lv_icmp_ge (tgt := 98) E.1 E.2.1 dX3_init_56 (by decide) (fun c56 => ?_) (fun c56 => ?_)
    · replace hM := x_okT hM c56
      exact w_vret E S hM hr hk dX3_init_98
    · replace hM := x_okF hM c56
      refine w_iload_n E hl 1 dX3_init_59 rfl ?_
      refine lv_bipush (v := (10 : Int32)) E.1 E.2.1 dX3_init_60 (by decide) ?_
      refine lv_idiv E.1 E.2.1 dX3_init_62 (by decide) ?_
      refine w_iload_n E hl 1 dX3_init_63 rfl ?_
      refine lv_bipush (v := (10 : Int32)) E.1 E.2.1 dX3_init_64 (by decide) ?_
      refine w_irem E dX3_init_66 (by decide) ?_
      refine lv_icmp_ne (tgt := 74) E.1 E.2.1 dX3_init_67 (by decide) (fun c67 => ?_) (fun c67 => ?_)
      · replace hM := x_okF hM c67
        refine lv_iconst (v := (0 : Int32)) E.1 E.2.1 dX3_init_74 (by decide) ?_
        refine w_istore_n (lt' := [(2, .inl (0 : Int32)), (0, .inr (.inl (some y0))), (1, .inl y1)]) E hl dX3_init_75 (by decide) rfl (fun ls hl => ?_)
        refine w_aload_n E hl 1 dX3_init_76 rfl ?_
        refine w_rR E S hM lk_3_23 rfl dX3_init_77 (fun v77 hM => ?_)
        refine w_iload_n E hl 2 dX3_init_80 rfl ?_
        refine w_iload_n E hl 0 dX3_init_81 rfl ?_
        refine lv_if_eq (tgt := 89) E.1 E.2.1 dX3_init_82 (by decide) (fun c82 => ?_) (fun c82 => ?_)
        · replace hM := x_okT hM c82
          refine w_ldc (v := (1000000 : Int32)) E wd_30 dX3_init_89 ?_
          refine w_sI E S hM dX3_init_91 (fun σ H locs S hM => ?_)
          refine w_iincN (ltf := fun v92 => [(1, .inl v92), (2, .inl (0 : Int32)), (0, .inr (.inl (some y0)))]) E hl 2 hM dX3_init_92 rfl (by decide) (by decide) (fun _ => rfl) (fun v92 ls hM hl => ?_)
          refine lv_goto (tgt := 50) E.1 E.2.1 dX3_init_95 (by decide) ?_
          exact ih y0 v92 _ _ _ _ S hM (x_lv_sub hl [2, 0] rfl)
        · replace hM := x_okF hM c82
          refine lv_iconst (v := (0 : Int32)) E.1 E.2.1 dX3_init_85 (by decide) ?_
          refine lv_goto (tgt := 91) E.1 E.2.1 dX3_init_86 (by decide) ?_
          refine w_sI E S hM dX3_init_91 (fun σ H locs S hM => ?_)
          refine w_iincN (ltf := fun v92 => [(1, .inl v92), (2, .inl (0 : Int32)), (0, .inr (.inl (some y0)))]) E hl 2 hM dX3_init_92 rfl (by decide) (by decide) (fun _ => rfl) (fun v92 ls hM hl => ?_)
          refine lv_goto (tgt := 50) E.1 E.2.1 dX3_init_95 (by decide) ?_
          exact ih y0 v92 _ _ _ _ S hM (x_lv_sub hl [2, 0] rfl)
      · replace hM := x_okT hM c67
        refine lv_iconst (v := (1 : Int32)) E.1 E.2.1 dX3_init_70 (by decide) ?_
        refine lv_goto (tgt := 75) E.1 E.2.1 dX3_init_71 (by decide) ?_
        refine w_istore_n (lt' := [(2, .inl (1 : Int32)), (0, .inr (.inl (some y0))), (1, .inl y1)]) E hl dX3_init_75 (by decide) rfl (fun ls hl => ?_)
        refine w_aload_n E hl 1 dX3_init_76 rfl ?_
        refine w_rR E S hM lk_3_23 rfl dX3_init_77 (fun v77 hM => ?_)
        refine w_iload_n E hl 2 dX3_init_80 rfl ?_
        refine w_iload_n E hl 0 dX3_init_81 rfl ?_
        refine lv_if_eq (tgt := 89) E.1 E.2.1 dX3_init_82 (by decide) (fun c82 => ?_) (fun c82 => ?_)
        · replace hM := x_okT hM c82
          refine w_ldc (v := (1000000 : Int32)) E wd_30 dX3_init_89 ?_
          refine w_sI E S hM dX3_init_91 (fun σ H locs S hM => ?_)
          refine w_iincN (ltf := fun v92 => [(1, .inl v92), (2, .inl (1 : Int32)), (0, .inr (.inl (some y0)))]) E hl 2 hM dX3_init_92 rfl (by decide) (by decide) (fun _ => rfl) (fun v92 ls hM hl => ?_)
          refine lv_goto (tgt := 50) E.1 E.2.1 dX3_init_95 (by decide) ?_
          exact ih y0 v92 _ _ _ _ S hM (x_lv_sub hl [2, 0] rfl)
        · replace hM := x_okF hM c82
          refine lv_iconst (v := (0 : Int32)) E.1 E.2.1 dX3_init_85 (by decide) ?_
          refine lv_goto (tgt := 91) E.1 E.2.1 dX3_init_86 (by decide) ?_
          refine w_sI E S hM dX3_init_91 (fun σ H locs S hM => ?_)
          refine w_iincN (ltf := fun v92 => [(1, .inl v92), (2, .inl (1 : Int32)), (0, .inr (.inl (some y0)))]) E hl 2 hM dX3_init_92 rfl (by decide) (by decide) (fun _ => rfl) (fun v92 ls hM hl => ?_)
          refine lv_goto (tgt := 50) E.1 E.2.1 dX3_init_95 (by decide) ?_
          exact ih y0 v92 _ _ _ _ S hM (x_lv_sub hl [2, 0] rfl)
theorem mcX3_init : x_mc yX3_init cX3_init 3 none 0 := ⟨wd_24, wd_2, by decide +kernel⟩
set_option maxHeartbeats 4000000 in
set_option maxRecDepth 100000 in
theorem kX3_init (l : Launch) (base : Nat) (D : va_G) (dA : Nat → ClassId) (F : Nat) (r0 : Nat) : x_Met l base D dA yX3_init cX3_init 3 none 1 21 [va_rf (some r0)] (mX3_init F (some r0)) (fun _ => none) := by
  refine x_Met.of [(0, .inr (.inl (some r0)))] (by decide) (Nat.le_of_ble_eq_true rfl) rfl rfl ?_
  intro p e R s m args below meth c σ a τ ls hfr hlo E hr hk hn S hM hl
  have E : x_E p s m args c cX3_init 3 "WireMoney$Net" D dA := E
  unfold mX3_init at hM
  refine w_aload_n E hl 0 dX3_init_0 rfl ?_
  refine w_obj E hl ⟨wd_25, wd_18, wd_19⟩ (by rw [hfr, hlo]; decide) (Nat.le_of_ble_eq_true rfl) dX3_init_1 ?_
  refine w_aload_n E hl 0 dX3_init_4 rfl ?_
  refine lv_bipush (v := (10 : Int32)) E.1 E.2.1 dX3_init_5 (by decide) ?_
  refine w_newq E S hM (by decide) wd_26 dX3_init_7 (fun v7 σ H S hM => ?_)
  refine w_wR E S hM lk_3_11 rfl (Or.inr ⟨hn, rfl, rfl⟩) dX3_init_10 (fun σ H locs S hM => ?_)
  refine w_aload_n E hl 0 dX3_init_13 rfl ?_
  refine lv_bipush (v := (15 : Int32)) E.1 E.2.1 dX3_init_14 (by decide) ?_
  refine w_newq E S hM (by decide) wd_28 dX3_init_16 (fun v16 σ H S hM => ?_)
  refine w_wR E S hM lk_3_19 rfl (Or.inr ⟨hn, rfl, rfl⟩) dX3_init_19 (fun σ H locs S hM => ?_)
  refine w_aload_n E hl 0 dX3_init_22 rfl ?_
  refine lv_bipush (v := (100 : Int32)) E.1 E.2.1 dX3_init_23 (by decide) ?_
  refine w_newa (atype := .int) E S hM ⟨by decide, rfl, wd_55⟩ dX3_init_25 (fun v25 σ H S hM => ?_)
  refine w_wR E S hM lk_3_23 rfl (Or.inr ⟨hn, rfl, rfl⟩) dX3_init_27 (fun σ H locs S hM => ?_)
  refine w_aload_n E hl 0 dX3_init_30 rfl ?_
  refine lv_bipush (v := (100 : Int32)) E.1 E.2.1 dX3_init_31 (by decide) ?_
  refine w_newq E S hM (by decide) wd_28 dX3_init_33 (fun v33 σ H S hM => ?_)
  refine w_wR E S hM lk_3_27 rfl (Or.inr ⟨hn, rfl, rfl⟩) dX3_init_36 (fun σ H locs S hM => ?_)
  refine w_aload_n E hl 0 dX3_init_39 rfl ?_
  refine lv_bipush (v := (100 : Int32)) E.1 E.2.1 dX3_init_40 (by decide) ?_
  refine w_newq E S hM (by decide) wd_28 dX3_init_42 (fun v42 σ H S hM => ?_)
  refine w_wR E S hM lk_3_30 rfl (Or.inr ⟨hn, rfl, rfl⟩) dX3_init_45 (fun σ H locs S hM => ?_)
  refine lv_iconst (v := (0 : Int32)) E.1 E.2.1 dX3_init_48 (by decide) ?_
  refine w_istore_n (lt' := [(1, .inl (0 : Int32)), (0, .inr (.inl (some r0)))]) E hl dX3_init_49 (by decide) rfl (fun ls hl => ?_)
  exact bX3_init_50 E hr hk hn hfr hlo F r0 (0 : Int32) _ _ _ _ S hM (x_lv_sub hl [1, 0] rfl)
theorem dX3_findCounter_0 : decode cX3_findCounter 0 = .ok (.iload_n 1, 1) := by decide +kernel
theorem dX3_findCounter_1 : decode cX3_findCounter 1 = .ok (.ifCond .lt 29, 3) := by decide +kernel
theorem dX3_findCounter_4 : decode cX3_findCounter 4 = .ok (.iload_n 1, 1) := by decide +kernel
theorem dX3_findCounter_5 : decode cX3_findCounter 5 = .ok (.aload_n 0, 1) := by decide +kernel
theorem dX3_findCounter_6 : decode cX3_findCounter 6 = .ok (.getfield 34, 3) := by decide +kernel
theorem dX3_findCounter_9 : decode cX3_findCounter 9 = .ok (.if_icmp .ge 21, 3) := by decide +kernel
theorem dX3_findCounter_12 : decode cX3_findCounter 12 = .ok (.iload_n 1, 1) := by decide +kernel
theorem dX3_findCounter_13 : decode cX3_findCounter 13 = .ok (.aload_n 0, 1) := by decide +kernel
theorem dX3_findCounter_14 : decode cX3_findCounter 14 = .ok (.getfield 11, 3) := by decide +kernel
theorem dX3_findCounter_17 : decode cX3_findCounter 17 = .ok (.arraylength, 1) := by decide +kernel
theorem dX3_findCounter_18 : decode cX3_findCounter 18 = .ok (.if_icmp .ge 12, 3) := by decide +kernel
theorem dX3_findCounter_21 : decode cX3_findCounter 21 = .ok (.aload_n 0, 1) := by decide +kernel
theorem dX3_findCounter_22 : decode cX3_findCounter 22 = .ok (.getfield 11, 3) := by decide +kernel
theorem dX3_findCounter_25 : decode cX3_findCounter 25 = .ok (.iload_n 1, 1) := by decide +kernel
theorem dX3_findCounter_26 : decode cX3_findCounter 26 = .ok (.aaload, 1) := by decide +kernel
theorem dX3_findCounter_27 : decode cX3_findCounter 27 = .ok (.goto 4, 3) := by decide +kernel
theorem dX3_findCounter_30 : decode cX3_findCounter 30 = .ok (.aconst_null, 1) := by decide +kernel
theorem dX3_findCounter_31 : decode cX3_findCounter 31 = .ok (.areturn, 1) := by decide +kernel
theorem mcX3_findCounter : x_mc yX3_findCounter cX3_findCounter 2 (some (.object "WireMoney$Counter")) 1 := ⟨wd_156, wd_2, by decide +kernel⟩
set_option maxHeartbeats 4000000 in
set_option maxRecDepth 100000 in
theorem kX3_findCounter (l : Launch) (base : Nat) (D : va_G) (dA : Nat → ClassId) (F : Nat) (r0 : Option Nat) (x1 : Int32) : x_Met l base D dA yX3_findCounter cX3_findCounter 2 (some (.object "WireMoney$Counter")) 0 0 [va_rf r0, .int x1] (mX3_findCounter F r0 x1) (fun x => some (va_rf x)) := by
  refine x_Met.of [(0, .inr (.inl r0)), (1, .inl x1)] (by decide) (Nat.le_of_ble_eq_true rfl) rfl rfl ?_
  intro p e R s m args below meth c σ a τ ls hfr hlo E hr hk hn S hM hl
  have E : x_E p s m args c cX3_findCounter 2 "WireMoney$Net" D dA := E
  unfold mX3_findCounter at hM
  refine w_iload_n E hl 1 dX3_findCounter_0 rfl ?_
  refine lv_if_lt (tgt := 30) E.1 E.2.1 dX3_findCounter_1 (by decide) (fun c1 => ?_) (fun c1 => ?_)
  · replace hM := x_okT hM c1
    refine w_null E dX3_findCounter_30 ?_
    exact w_aret E S hM hr hk dX3_findCounter_31
  · replace hM := x_okF hM c1
    refine w_iload_n E hl 1 dX3_findCounter_4 rfl ?_
    refine w_aload_n E hl 0 dX3_findCounter_5 rfl ?_
    refine w_rI E S hM lk_3_34 rfl dX3_findCounter_6 (fun v6 hM => ?_)
    refine lv_icmp_ge (tgt := 30) E.1 E.2.1 dX3_findCounter_9 (by decide) (fun c9 => ?_) (fun c9 => ?_)
    · replace hM := x_okT hM c9
      refine w_null E dX3_findCounter_30 ?_
      exact w_aret E S hM hr hk dX3_findCounter_31
    · replace hM := x_okF hM c9
      refine w_iload_n E hl 1 dX3_findCounter_12 rfl ?_
      refine w_aload_n E hl 0 dX3_findCounter_13 rfl ?_
      refine w_rR E S hM lk_3_11 rfl dX3_findCounter_14 (fun v14 hM => ?_)
      refine w_aL E S hM (by decide) dX3_findCounter_17 (fun v17 hM => ?_)
      refine lv_icmp_ge (tgt := 30) E.1 E.2.1 dX3_findCounter_18 (by decide) (fun c18 => ?_) (fun c18 => ?_)
      · replace hM := x_okT hM c18
        refine w_null E dX3_findCounter_30 ?_
        exact w_aret E S hM hr hk dX3_findCounter_31
      · replace hM := x_okF hM c18
        refine w_aload_n E hl 0 dX3_findCounter_21 rfl ?_
        refine w_rR E S hM lk_3_11 rfl dX3_findCounter_22 (fun v22 hM => ?_)
        refine w_iload_n E hl 1 dX3_findCounter_25 rfl ?_
        refine w_aQ E S hM (by decide) dX3_findCounter_26 (fun v26 hM => ?_)
        refine lv_goto (tgt := 31) E.1 E.2.1 dX3_findCounter_27 (by decide) ?_
        exact w_aret E S hM hr hk dX3_findCounter_31
theorem dX3_findWire_0 : decode cX3_findWire 0 = .ok (.iload_n 1, 1) := by decide +kernel
theorem dX3_findWire_1 : decode cX3_findWire 1 = .ok (.ifCond .lt 29, 3) := by decide +kernel
theorem dX3_findWire_4 : decode cX3_findWire 4 = .ok (.iload_n 1, 1) := by decide +kernel
theorem dX3_findWire_5 : decode cX3_findWire 5 = .ok (.aload_n 0, 1) := by decide +kernel
theorem dX3_findWire_6 : decode cX3_findWire 6 = .ok (.getfield 38, 3) := by decide +kernel
theorem dX3_findWire_9 : decode cX3_findWire 9 = .ok (.if_icmp .ge 21, 3) := by decide +kernel
theorem dX3_findWire_12 : decode cX3_findWire 12 = .ok (.iload_n 1, 1) := by decide +kernel
theorem dX3_findWire_13 : decode cX3_findWire 13 = .ok (.aload_n 0, 1) := by decide +kernel
theorem dX3_findWire_14 : decode cX3_findWire 14 = .ok (.getfield 19, 3) := by decide +kernel
theorem dX3_findWire_17 : decode cX3_findWire 17 = .ok (.arraylength, 1) := by decide +kernel
theorem dX3_findWire_18 : decode cX3_findWire 18 = .ok (.if_icmp .ge 12, 3) := by decide +kernel
theorem dX3_findWire_21 : decode cX3_findWire 21 = .ok (.aload_n 0, 1) := by decide +kernel
theorem dX3_findWire_22 : decode cX3_findWire 22 = .ok (.getfield 19, 3) := by decide +kernel
theorem dX3_findWire_25 : decode cX3_findWire 25 = .ok (.iload_n 1, 1) := by decide +kernel
theorem dX3_findWire_26 : decode cX3_findWire 26 = .ok (.aaload, 1) := by decide +kernel
theorem dX3_findWire_27 : decode cX3_findWire 27 = .ok (.goto 4, 3) := by decide +kernel
theorem dX3_findWire_30 : decode cX3_findWire 30 = .ok (.aconst_null, 1) := by decide +kernel
theorem dX3_findWire_31 : decode cX3_findWire 31 = .ok (.areturn, 1) := by decide +kernel
theorem mcX3_findWire : x_mc yX3_findWire cX3_findWire 2 (some (.object "WireMoney$Wire")) 1 := ⟨wd_249, wd_2, by decide +kernel⟩
set_option maxHeartbeats 4000000 in
set_option maxRecDepth 100000 in
theorem kX3_findWire (l : Launch) (base : Nat) (D : va_G) (dA : Nat → ClassId) (F : Nat) (r0 : Option Nat) (x1 : Int32) : x_Met l base D dA yX3_findWire cX3_findWire 2 (some (.object "WireMoney$Wire")) 0 0 [va_rf r0, .int x1] (mX3_findWire F r0 x1) (fun x => some (va_rf x)) := by
  refine x_Met.of [(0, .inr (.inl r0)), (1, .inl x1)] (by decide) (Nat.le_of_ble_eq_true rfl) rfl rfl ?_
  intro p e R s m args below meth c σ a τ ls hfr hlo E hr hk hn S hM hl
  have E : x_E p s m args c cX3_findWire 2 "WireMoney$Net" D dA := E
  unfold mX3_findWire at hM
  refine w_iload_n E hl 1 dX3_findWire_0 rfl ?_
  refine lv_if_lt (tgt := 30) E.1 E.2.1 dX3_findWire_1 (by decide) (fun c1 => ?_) (fun c1 => ?_)
  · replace hM := x_okT hM c1
    refine w_null E dX3_findWire_30 ?_
    exact w_aret E S hM hr hk dX3_findWire_31
  · replace hM := x_okF hM c1
    refine w_iload_n E hl 1 dX3_findWire_4 rfl ?_
    refine w_aload_n E hl 0 dX3_findWire_5 rfl ?_
    refine w_rI E S hM lk_3_38 rfl dX3_findWire_6 (fun v6 hM => ?_)
    refine lv_icmp_ge (tgt := 30) E.1 E.2.1 dX3_findWire_9 (by decide) (fun c9 => ?_) (fun c9 => ?_)
    · replace hM := x_okT hM c9
      refine w_null E dX3_findWire_30 ?_
      exact w_aret E S hM hr hk dX3_findWire_31
    · replace hM := x_okF hM c9
      refine w_iload_n E hl 1 dX3_findWire_12 rfl ?_
      refine w_aload_n E hl 0 dX3_findWire_13 rfl ?_
      refine w_rR E S hM lk_3_19 rfl dX3_findWire_14 (fun v14 hM => ?_)
      refine w_aL E S hM (by decide) dX3_findWire_17 (fun v17 hM => ?_)
      refine lv_icmp_ge (tgt := 30) E.1 E.2.1 dX3_findWire_18 (by decide) (fun c18 => ?_) (fun c18 => ?_)
      · replace hM := x_okT hM c18
        refine w_null E dX3_findWire_30 ?_
        exact w_aret E S hM hr hk dX3_findWire_31
      · replace hM := x_okF hM c18
        refine w_aload_n E hl 0 dX3_findWire_21 rfl ?_
        refine w_rR E S hM lk_3_19 rfl dX3_findWire_22 (fun v22 hM => ?_)
        refine w_iload_n E hl 1 dX3_findWire_25 rfl ?_
        refine w_aQ E S hM (by decide) dX3_findWire_26 (fun v26 hM => ?_)
        refine lv_goto (tgt := 31) E.1 E.2.1 dX3_findWire_27 (by decide) ?_
        exact w_aret E S hM hr hk dX3_findWire_31
theorem dX3_addCounter_0 : decode cX3_addCounter 0 = .ok (.aload_n 0, 1) := by decide +kernel
theorem dX3_addCounter_1 : decode cX3_addCounter 1 = .ok (.getfield 34, 3) := by decide +kernel
theorem dX3_addCounter_4 : decode cX3_addCounter 4 = .ok (.istore 4, 2) := by decide +kernel
theorem dX3_addCounter_6 : decode cX3_addCounter 6 = .ok (.iload 4, 2) := by decide +kernel
theorem dX3_addCounter_8 : decode cX3_addCounter 8 = .ok (.aload_n 0, 1) := by decide +kernel
theorem dX3_addCounter_9 : decode cX3_addCounter 9 = .ok (.getfield 11, 3) := by decide +kernel
theorem dX3_addCounter_12 : decode cX3_addCounter 12 = .ok (.arraylength, 1) := by decide +kernel
theorem dX3_addCounter_13 : decode cX3_addCounter 13 = .ok (.if_icmp .lt 5, 3) := by decide +kernel
theorem dX3_addCounter_16 : decode cX3_addCounter 16 = .ok (.iconst (-1), 1) := by decide +kernel
theorem dX3_addCounter_17 : decode cX3_addCounter 17 = .ok (.ireturn, 1) := by decide +kernel
theorem dX3_addCounter_18 : decode cX3_addCounter 18 = .ok (.aload_n 0, 1) := by decide +kernel
theorem dX3_addCounter_19 : decode cX3_addCounter 19 = .ok (.getfield 11, 3) := by decide +kernel
theorem dX3_addCounter_22 : decode cX3_addCounter 22 = .ok (.iload 4, 2) := by decide +kernel
theorem dX3_addCounter_24 : decode cX3_addCounter 24 = .ok (.new 9, 3) := by decide +kernel
theorem dX3_addCounter_27 : decode cX3_addCounter 27 = .ok (.dup, 1) := by decide +kernel
theorem dX3_addCounter_28 : decode cX3_addCounter 28 = .ok (.iload 4, 2) := by decide +kernel
theorem dX3_addCounter_30 : decode cX3_addCounter 30 = .ok (.iload_n 1, 1) := by decide +kernel
theorem dX3_addCounter_31 : decode cX3_addCounter 31 = .ok (.iload_n 2, 1) := by decide +kernel
theorem dX3_addCounter_32 : decode cX3_addCounter 32 = .ok (.iload_n 3, 1) := by decide +kernel
theorem dX3_addCounter_33 : decode cX3_addCounter 33 = .ok (.invokespecial 41, 3) := by decide +kernel
theorem dX3_addCounter_36 : decode cX3_addCounter 36 = .ok (.aastore, 1) := by decide +kernel
theorem dX3_addCounter_37 : decode cX3_addCounter 37 = .ok (.aload_n 0, 1) := by decide +kernel
theorem dX3_addCounter_38 : decode cX3_addCounter 38 = .ok (.dup, 1) := by decide +kernel
theorem dX3_addCounter_39 : decode cX3_addCounter 39 = .ok (.getfield 34, 3) := by decide +kernel
theorem dX3_addCounter_42 : decode cX3_addCounter 42 = .ok (.iconst 1, 1) := by decide +kernel
theorem dX3_addCounter_43 : decode cX3_addCounter 43 = .ok (.iadd, 1) := by decide +kernel
theorem dX3_addCounter_44 : decode cX3_addCounter 44 = .ok (.putfield 34, 3) := by decide +kernel
theorem dX3_addCounter_47 : decode cX3_addCounter 47 = .ok (.iload 4, 2) := by decide +kernel
theorem dX3_addCounter_49 : decode cX3_addCounter 49 = .ok (.ireturn, 1) := by decide +kernel
theorem mcX3_addCounter : x_mc yX3_addCounter cX3_addCounter 5 (some .int) 3 := ⟨wd_121, wd_2, by decide +kernel⟩
set_option maxHeartbeats 4000000 in
set_option maxRecDepth 100000 in
theorem kX3_addCounter (l : Launch) (base : Nat) (D : va_G) (dA : Nat → ClassId) (F : Nat) (r0 : Option Nat) (x1 : Int32) (x2 : Int32) (x3 : Int32) : x_Met l base D dA yX3_addCounter cX3_addCounter 5 (some .int) 2 45 [va_rf r0, .int x1, .int x2, .int x3] (mX3_addCounter F r0 x1 x2 x3) (fun x => some (.int x)) := by
  refine x_Met.of [(0, .inr (.inl r0)), (1, .inl x1), (2, .inl x2), (3, .inl x3)] (by decide) (Nat.le_of_ble_eq_true rfl) rfl rfl ?_
  intro p e R s m args below meth c σ a τ ls hfr hlo E hr hk hn S hM hl
  have E : x_E p s m args c cX3_addCounter 5 "WireMoney$Net" D dA := E
  unfold mX3_addCounter at hM
  refine w_aload_n E hl 0 dX3_addCounter_0 rfl ?_
  refine w_rI E S hM lk_3_34 rfl dX3_addCounter_1 (fun v1 hM => ?_)
  refine w_istore (lt' := [(4, .inl v1), (0, .inr (.inl r0)), (1, .inl x1), (2, .inl x2), (3, .inl x3)]) E hl dX3_addCounter_4 (by decide) rfl (fun ls hl => ?_)
  refine w_iload E hl 0 dX3_addCounter_6 rfl ?_
  refine w_aload_n E hl 1 dX3_addCounter_8 rfl ?_
  refine w_rR E S hM lk_3_11 rfl dX3_addCounter_9 (fun v9 hM => ?_)
  refine w_aL E S hM (by decide) dX3_addCounter_12 (fun v12 hM => ?_)
  refine lv_icmp_lt (tgt := 18) E.1 E.2.1 dX3_addCounter_13 (by decide) (fun c13 => ?_) (fun c13 => ?_)
  · replace hM := x_okT hM c13
    refine w_aload_n E hl 1 dX3_addCounter_18 rfl ?_
    refine w_rR E S hM lk_3_11 rfl dX3_addCounter_19 (fun v19 hM => ?_)
    refine w_iload E hl 0 dX3_addCounter_22 rfl ?_
    refine w_new E S hM ⟨by decide, wd_26⟩ dX3_addCounter_24 (fun v24 σ H S hM => ?_)
    refine lv_dup E.1 E.2.1 dX3_addCounter_27 (x_cat _) ?_
    refine w_iload E hl 0 dX3_addCounter_28 rfl ?_
    refine w_iload_n E hl 2 dX3_addCounter_30 rfl ?_
    refine w_iload_n E hl 3 dX3_addCounter_31 rfl ?_
    refine w_iload_n E hl 4 dX3_addCounter_32 rfl ?_
    refine w_cI (rest := [va_rf (some v24), .int v1, va_rf v19]) E S hl hM (kX1_init l base D dA F v24 v1 x1 x2 x3) mcX1_init ⟨wd_123, wd_124, rfl⟩ (by rw [hfr, hlo]; decide) rfl (Nat.le_of_ble_eq_true rfl) dX3_addCounter_33 rfl (fun σ H locs S hM => ?_)
    refine w_sQ E S hM ⟨by decide, by decide, by decide, rfl⟩ dX3_addCounter_36 (fun σ H locs S hM => ?_)
    refine w_aload_n E hl 1 dX3_addCounter_37 rfl ?_
    refine lv_dup E.1 E.2.1 dX3_addCounter_38 (x_cat _) ?_
    refine w_rI E S hM lk_3_34 rfl dX3_addCounter_39 (fun v39 hM => ?_)
    refine lv_iconst (v := (1 : Int32)) E.1 E.2.1 dX3_addCounter_42 (by decide) ?_
    refine lv_iadd E.1 E.2.1 dX3_addCounter_43 ?_
    refine w_wI E S hM lk_3_34 rfl (Or.inl rfl) dX3_addCounter_44 (fun σ H locs S hM => ?_)
    refine w_iload E hl 0 dX3_addCounter_47 rfl ?_
    exact w_iret E S hM hr hk dX3_addCounter_49
  · replace hM := x_okF hM c13
    refine lv_iconst (v := (-1 : Int32)) E.1 E.2.1 dX3_addCounter_16 (by decide) ?_
    exact w_iret E S hM hr hk dX3_addCounter_17
theorem dX5_init_0 : decode cX5_init 0 = .ok (.aload_n 0, 1) := by decide +kernel
theorem dX5_init_1 : decode cX5_init 1 = .ok (.invokespecial 1, 3) := by decide +kernel
theorem dX5_init_4 : decode cX5_init 4 = .ok (.aload_n 0, 1) := by decide +kernel
theorem dX5_init_5 : decode cX5_init 5 = .ok (.aload_n 1, 1) := by decide +kernel
theorem dX5_init_6 : decode cX5_init 6 = .ok (.putfield 7, 3) := by decide +kernel
theorem dX5_init_9 : decode cX5_init 9 = .ok (.aload_n 0, 1) := by decide +kernel
theorem dX5_init_10 : decode cX5_init 10 = .ok (.aload_n 2, 1) := by decide +kernel
theorem dX5_init_11 : decode cX5_init 11 = .ok (.putfield 13, 3) := by decide +kernel
theorem dX5_init_14 : decode cX5_init 14 = .ok (.return_, 1) := by decide +kernel
theorem mcX5_init : x_mc yX5_init cX5_init 3 none 2 := ⟨wd_170, wd_7, by decide +kernel⟩
set_option maxHeartbeats 4000000 in
set_option maxRecDepth 100000 in
theorem kX5_init (l : Launch) (base : Nat) (D : va_G) (dA : Nat → ClassId) (F : Nat) (r0 : Nat) (r1 : Option Nat) (r2 : Option Nat) : x_Met l base D dA yX5_init cX5_init 3 none 1 21 [va_rf (some r0), va_rf r1, va_rf r2] (mX5_init F (some r0) r1 r2) (fun _ => none) := by
  refine x_Met.of [(0, .inr (.inl (some r0))), (1, .inr (.inl r1)), (2, .inr (.inl r2))] (by decide) (Nat.le_of_ble_eq_true rfl) rfl rfl ?_
  intro p e R s m args below meth c σ a τ ls hfr hlo E hr hk hn S hM hl
  have E : x_E p s m args c cX5_init 3 "WireMoney$Queue" D dA := E
  unfold mX5_init at hM
  refine w_aload_n E hl 0 dX5_init_0 rfl ?_
  refine w_obj E hl ⟨wd_171, wd_18, wd_19⟩ (by rw [hfr, hlo]; decide) (Nat.le_of_ble_eq_true rfl) dX5_init_1 ?_
  refine w_aload_n E hl 0 dX5_init_4 rfl ?_
  refine w_aload_n E hl 1 dX5_init_5 rfl ?_
  refine w_wR E S hM lk_5_7 rfl (Or.inr ⟨hn, rfl, rfl⟩) dX5_init_6 (fun σ H locs S hM => ?_)
  refine w_aload_n E hl 0 dX5_init_9 rfl ?_
  refine w_aload_n E hl 2 dX5_init_10 rfl ?_
  refine w_wR E S hM lk_5_13 rfl (Or.inr ⟨hn, rfl, rfl⟩) dX5_init_11 (fun σ H locs S hM => ?_)
  exact w_vret E S hM hr hk dX5_init_14
theorem dX7_init_0 : decode cX7_init 0 = .ok (.aload_n 0, 1) := by decide +kernel
theorem dX7_init_1 : decode cX7_init 1 = .ok (.invokespecial 1, 3) := by decide +kernel
theorem dX7_init_4 : decode cX7_init 4 = .ok (.aload_n 0, 1) := by decide +kernel
theorem dX7_init_5 : decode cX7_init 5 = .ok (.new 7, 3) := by decide +kernel
theorem dX7_init_8 : decode cX7_init 8 = .ok (.dup, 1) := by decide +kernel
theorem dX7_init_9 : decode cX7_init 9 = .ok (.aload_n 1, 1) := by decide +kernel
theorem dX7_init_10 : decode cX7_init 10 = .ok (.aload_n 2, 1) := by decide +kernel
theorem dX7_init_11 : decode cX7_init 11 = .ok (.invokespecial 9, 3) := by decide +kernel
theorem dX7_init_14 : decode cX7_init 14 = .ok (.putfield 12, 3) := by decide +kernel
theorem dX7_init_17 : decode cX7_init 17 = .ok (.aload_n 0, 1) := by decide +kernel
theorem dX7_init_18 : decode cX7_init 18 = .ok (.new 7, 3) := by decide +kernel
theorem dX7_init_21 : decode cX7_init 21 = .ok (.dup, 1) := by decide +kernel
theorem dX7_init_22 : decode cX7_init 22 = .ok (.aload_n 2, 1) := by decide +kernel
theorem dX7_init_23 : decode cX7_init 23 = .ok (.aload_n 1, 1) := by decide +kernel
theorem dX7_init_24 : decode cX7_init 24 = .ok (.invokespecial 9, 3) := by decide +kernel
theorem dX7_init_27 : decode cX7_init 27 = .ok (.putfield 18, 3) := by decide +kernel
theorem dX7_init_30 : decode cX7_init 30 = .ok (.aload_n 0, 1) := by decide +kernel
theorem dX7_init_31 : decode cX7_init 31 = .ok (.iload_n 3, 1) := by decide +kernel
theorem dX7_init_32 : decode cX7_init 32 = .ok (.putfield 21, 3) := by decide +kernel
theorem dX7_init_35 : decode cX7_init 35 = .ok (.return_, 1) := by decide +kernel
theorem mcX7_init : x_mc yX7_init cX7_init 4 none 3 := ⟨wd_164, wd_6, by decide +kernel⟩
set_option maxHeartbeats 4000000 in
set_option maxRecDepth 100000 in
theorem kX7_init (l : Launch) (base : Nat) (D : va_G) (dA : Nat → ClassId) (F : Nat) (r0 : Nat) (r1 : Option Nat) (r2 : Option Nat) (x3 : Int32) : x_Met l base D dA yX7_init cX7_init 4 none 2 43 [va_rf (some r0), va_rf r1, va_rf r2, .int x3] (mX7_init F (some r0) r1 r2 x3) (fun _ => none) := by
  refine x_Met.of [(0, .inr (.inl (some r0))), (1, .inr (.inl r1)), (2, .inr (.inl r2)), (3, .inl x3)] (by decide) (Nat.le_of_ble_eq_true rfl) rfl rfl ?_
  intro p e R s m args below meth c σ a τ ls hfr hlo E hr hk hn S hM hl
  have E : x_E p s m args c cX7_init 4 "WireMoney$Wire" D dA := E
  unfold mX7_init at hM
  refine w_aload_n E hl 0 dX7_init_0 rfl ?_
  refine w_obj E hl ⟨wd_165, wd_18, wd_19⟩ (by rw [hfr, hlo]; decide) (Nat.le_of_ble_eq_true rfl) dX7_init_1 ?_
  refine w_aload_n E hl 0 dX7_init_4 rfl ?_
  refine w_new E S hM ⟨by decide, wd_166⟩ dX7_init_5 (fun v5 σ H S hM => ?_)
  refine lv_dup E.1 E.2.1 dX7_init_8 (x_cat _) ?_
  refine w_aload_n E hl 1 dX7_init_9 rfl ?_
  refine w_aload_n E hl 2 dX7_init_10 rfl ?_
  refine w_cI (rest := [va_rf (some v5), va_rf (some r0)]) E S hl hM (kX5_init l base D dA F v5 r1 r2) mcX5_init ⟨wd_168, wd_169, rfl⟩ (by rw [hfr, hlo]; decide) rfl (Nat.le_of_ble_eq_true rfl) dX7_init_11 rfl (fun σ H locs S hM => ?_)
  refine w_wR E S hM lk_7_12 rfl (Or.inr ⟨hn, rfl, rfl⟩) dX7_init_14 (fun σ H locs S hM => ?_)
  refine w_aload_n E hl 0 dX7_init_17 rfl ?_
  refine w_new E S hM ⟨by decide, wd_166⟩ dX7_init_18 (fun v18 σ H S hM => ?_)
  refine lv_dup E.1 E.2.1 dX7_init_21 (x_cat _) ?_
  refine w_aload_n E hl 2 dX7_init_22 rfl ?_
  refine w_aload_n E hl 1 dX7_init_23 rfl ?_
  refine w_cI (rest := [va_rf (some v18), va_rf (some r0)]) E S hl hM (kX5_init l base D dA F v18 r2 r1) mcX5_init ⟨wd_168, wd_169, rfl⟩ (by rw [hfr, hlo]; decide) rfl (Nat.le_of_ble_eq_true rfl) dX7_init_24 rfl (fun σ H locs S hM => ?_)
  refine w_wR E S hM lk_7_18 rfl (Or.inr ⟨hn, rfl, rfl⟩) dX7_init_27 (fun σ H locs S hM => ?_)
  refine w_aload_n E hl 0 dX7_init_30 rfl ?_
  refine w_iload_n E hl 3 dX7_init_31 rfl ?_
  refine w_wI E S hM lk_7_21 rfl (Or.inr ⟨hn, rfl, rfl⟩) dX7_init_32 (fun σ H locs S hM => ?_)
  exact w_vret E S hM hr hk dX7_init_35
theorem dX3_cell_0 : decode cX3_cell 0 = .ok (.iload_n 0, 1) := by decide +kernel
theorem dX3_cell_1 : decode cX3_cell 1 = .ok (.bipush 10, 2) := by decide +kernel
theorem dX3_cell_3 : decode cX3_cell 3 = .ok (.imul, 1) := by decide +kernel
theorem dX3_cell_4 : decode cX3_cell 4 = .ok (.iload_n 1, 1) := by decide +kernel
theorem dX3_cell_5 : decode cX3_cell 5 = .ok (.iadd, 1) := by decide +kernel
theorem dX3_cell_6 : decode cX3_cell 6 = .ok (.ireturn, 1) := by decide +kernel
theorem mcX3_cell : x_mc yX3_cell cX3_cell 2 (some .int) 2 := ⟨wd_215, wd_2, by decide +kernel⟩
set_option maxHeartbeats 4000000 in
set_option maxRecDepth 100000 in
theorem kX3_cell (l : Launch) (base : Nat) (D : va_G) (dA : Nat → ClassId) (F : Nat) (x0 : Int32) (x1 : Int32) : x_Met l base D dA yX3_cell cX3_cell 2 (some .int) 0 0 [.int x0, .int x1] (mX3_cell F x0 x1) (fun x => some (.int x)) := by
  refine x_Met.of [(0, .inl x0), (1, .inl x1)] (by decide) (Nat.le_of_ble_eq_true rfl) rfl rfl ?_
  intro p e R s m args below meth c σ a τ ls hfr hlo E hr hk hn S hM hl
  have E : x_E p s m args c cX3_cell 2 "WireMoney$Net" D dA := E
  unfold mX3_cell at hM
  refine w_iload_n E hl 0 dX3_cell_0 rfl ?_
  refine lv_bipush (v := (10 : Int32)) E.1 E.2.1 dX3_cell_1 (by decide) ?_
  refine lv_imul E.1 E.2.1 dX3_cell_3 ?_
  refine w_iload_n E hl 1 dX3_cell_4 rfl ?_
  refine lv_iadd E.1 E.2.1 dX3_cell_5 ?_
  exact w_iret E S hM hr hk dX3_cell_6
theorem dX3_isCell_0 : decode cX3_isCell 0 = .ok (.iload_n 0, 1) := by decide +kernel
theorem dX3_isCell_1 : decode cX3_isCell 1 = .ok (.ifCond .lt 13, 3) := by decide +kernel
theorem dX3_isCell_4 : decode cX3_isCell 4 = .ok (.iload_n 0, 1) := by decide +kernel
theorem dX3_isCell_5 : decode cX3_isCell 5 = .ok (.bipush 100, 2) := by decide +kernel
theorem dX3_isCell_7 : decode cX3_isCell 7 = .ok (.if_icmp .ge 7, 3) := by decide +kernel
theorem dX3_isCell_10 : decode cX3_isCell 10 = .ok (.iconst 1, 1) := by decide +kernel
theorem dX3_isCell_11 : decode cX3_isCell 11 = .ok (.goto 4, 3) := by decide +kernel
theorem dX3_isCell_14 : decode cX3_isCell 14 = .ok (.iconst 0, 1) := by decide +kernel
theorem dX3_isCell_15 : decode cX3_isCell 15 = .ok (.ireturn, 1) := by decide +kernel
theorem mcX3_isCell : x_mc yX3_isCell cX3_isCell 1 (some .boolean) 1 := ⟨wd_222, wd_2, by decide +kernel⟩
set_option maxHeartbeats 4000000 in
set_option maxRecDepth 100000 in
theorem kX3_isCell (l : Launch) (base : Nat) (D : va_G) (dA : Nat → ClassId) (F : Nat) (x0 : Int32) : x_Met l base D dA yX3_isCell cX3_isCell 1 (some .boolean) 0 0 [.int x0] (mX3_isCell F x0) (fun x => some (.int x)) := by
  refine x_Met.of [(0, .inl x0)] (by decide) (Nat.le_of_ble_eq_true rfl) rfl rfl ?_
  intro p e R s m args below meth c σ a τ ls hfr hlo E hr hk hn S hM hl
  have E : x_E p s m args c cX3_isCell 1 "WireMoney$Net" D dA := E
  unfold mX3_isCell at hM
  refine w_iload_n E hl 0 dX3_isCell_0 rfl ?_
  refine lv_if_lt (tgt := 14) E.1 E.2.1 dX3_isCell_1 (by decide) (fun c1 => ?_) (fun c1 => ?_)
  · replace hM := x_okT hM c1
    refine lv_iconst (v := (0 : Int32)) E.1 E.2.1 dX3_isCell_14 (by decide) ?_
    exact w_zretc E S hM (by decide) hr hk dX3_isCell_15
  · replace hM := x_okF hM c1
    refine w_iload_n E hl 0 dX3_isCell_4 rfl ?_
    refine lv_bipush (v := (100 : Int32)) E.1 E.2.1 dX3_isCell_5 (by decide) ?_
    refine lv_icmp_ge (tgt := 14) E.1 E.2.1 dX3_isCell_7 (by decide) (fun c7 => ?_) (fun c7 => ?_)
    · replace hM := x_okT hM c7
      refine lv_iconst (v := (0 : Int32)) E.1 E.2.1 dX3_isCell_14 (by decide) ?_
      exact w_zretc E S hM (by decide) hr hk dX3_isCell_15
    · replace hM := x_okF hM c7
      refine lv_iconst (v := (1 : Int32)) E.1 E.2.1 dX3_isCell_10 (by decide) ?_
      refine lv_goto (tgt := 15) E.1 E.2.1 dX3_isCell_11 (by decide) ?_
      exact w_zretc E S hM (by decide) hr hk dX3_isCell_15
theorem dX3_noteStraight_0 : decode cX3_noteStraight 0 = .ok (.iload_n 1, 1) := by decide +kernel
theorem dX3_noteStraight_1 : decode cX3_noteStraight 1 = .ok (.invokestatic 89, 3) := by decide +kernel
theorem dX3_noteStraight_4 : decode cX3_noteStraight 4 = .ok (.ifCond .ne 4, 3) := by decide +kernel
theorem dX3_noteStraight_7 : decode cX3_noteStraight 7 = .ok (.return_, 1) := by decide +kernel
theorem dX3_noteStraight_8 : decode cX3_noteStraight 8 = .ok (.aload_n 0, 1) := by decide +kernel
theorem dX3_noteStraight_9 : decode cX3_noteStraight 9 = .ok (.getfield 27, 3) := by decide +kernel
theorem dX3_noteStraight_12 : decode cX3_noteStraight 12 = .ok (.iload_n 1, 1) := by decide +kernel
theorem dX3_noteStraight_13 : decode cX3_noteStraight 13 = .ok (.aaload, 1) := by decide +kernel
theorem dX3_noteStraight_14 : decode cX3_noteStraight 14 = .ok (.astore_n 3, 1) := by decide +kernel
theorem dX3_noteStraight_15 : decode cX3_noteStraight 15 = .ok (.aload_n 3, 1) := by decide +kernel
theorem dX3_noteStraight_16 : decode cX3_noteStraight 16 = .ok (.ifnull 14, 3) := by decide +kernel
theorem dX3_noteStraight_19 : decode cX3_noteStraight 19 = .ok (.aload_n 2, 1) := by decide +kernel
theorem dX3_noteStraight_20 : decode cX3_noteStraight 20 = .ok (.getfield 93, 3) := by decide +kernel
theorem dX3_noteStraight_23 : decode cX3_noteStraight 23 = .ok (.aload_n 3, 1) := by decide +kernel
theorem dX3_noteStraight_24 : decode cX3_noteStraight 24 = .ok (.getfield 93, 3) := by decide +kernel
theorem dX3_noteStraight_27 : decode cX3_noteStraight 27 = .ok (.if_icmp .ge 10, 3) := by decide +kernel
theorem dX3_noteStraight_30 : decode cX3_noteStraight 30 = .ok (.aload_n 0, 1) := by decide +kernel
theorem dX3_noteStraight_31 : decode cX3_noteStraight 31 = .ok (.getfield 27, 3) := by decide +kernel
theorem dX3_noteStraight_34 : decode cX3_noteStraight 34 = .ok (.iload_n 1, 1) := by decide +kernel
theorem dX3_noteStraight_35 : decode cX3_noteStraight 35 = .ok (.aload_n 2, 1) := by decide +kernel
theorem dX3_noteStraight_36 : decode cX3_noteStraight 36 = .ok (.aastore, 1) := by decide +kernel
theorem dX3_noteStraight_37 : decode cX3_noteStraight 37 = .ok (.return_, 1) := by decide +kernel
theorem mcX3_noteStraight : x_mc yX3_noteStraight cX3_noteStraight 4 none 2 := ⟨wd_219, wd_2, by decide +kernel⟩
set_option maxHeartbeats 4000000 in
set_option maxRecDepth 100000 in
theorem kX3_noteStraight (l : Launch) (base : Nat) (D : va_G) (dA : Nat → ClassId) (F : Nat) (r0 : Option Nat) (x1 : Int32) (r2 : Option Nat) : x_Met l base D dA yX3_noteStraight cX3_noteStraight 4 none 1 20 [va_rf r0, .int x1, va_rf r2] (mX3_noteStraight F r0 x1 r2) (fun _ => none) := by
  refine x_Met.of [(0, .inr (.inl r0)), (1, .inl x1), (2, .inr (.inl r2))] (by decide) (Nat.le_of_ble_eq_true rfl) rfl rfl ?_
  intro p e R s m args below meth c σ a τ ls hfr hlo E hr hk hn S hM hl
  have E : x_E p s m args c cX3_noteStraight 4 "WireMoney$Net" D dA := E
  unfold mX3_noteStraight at hM
  refine w_iload_n E hl 1 dX3_noteStraight_0 rfl ?_
  refine w_cSi (rest := []) E S hl hM (kX3_isCell l base D dA F x1) mcX3_isCell ⟨wd_220, wd_221⟩ hfr hlo (by decide) rfl (Nat.le_of_ble_eq_true rfl) dX3_noteStraight_1 rfl (fun v1 σ H locs S hM => ?_)
  refine lv_if_ne (tgt := 8) E.1 E.2.1 dX3_noteStraight_4 (by decide) (fun c4 => ?_) (fun c4 => ?_)
  · replace hM := x_okF hM c4
    refine w_aload_n E hl 0 dX3_noteStraight_8 rfl ?_
    refine w_rR E S hM lk_3_27 rfl dX3_noteStraight_9 (fun v9 hM => ?_)
    refine w_iload_n E hl 1 dX3_noteStraight_12 rfl ?_
    refine w_aQ E S hM (by decide) dX3_noteStraight_13 (fun v13 hM => ?_)
    refine w_astore_n (lt' := [(3, .inr (.inl v13)), (0, .inr (.inl r0)), (1, .inl x1), (2, .inr (.inl r2))]) E hl dX3_noteStraight_14 (by decide) rfl (fun ls hl => ?_)
    refine w_aload_n E hl 0 dX3_noteStraight_15 rfl ?_
    refine w_ifnull (tgt := 30) E hM dX3_noteStraight_16 (by decide) (fun c16 hM => ?_) (fun a16 c16 hM => ?_)
    · skip
      refine w_aload_n E hl 1 dX3_noteStraight_30 rfl ?_
      refine w_rR E S hM lk_3_27 rfl dX3_noteStraight_31 (fun v31 hM => ?_)
      refine w_iload_n E hl 2 dX3_noteStraight_34 rfl ?_
      refine w_aload_n E hl 3 dX3_noteStraight_35 rfl ?_
      refine w_sQ E S hM ⟨by decide, by decide, by decide, rfl⟩ dX3_noteStraight_36 (fun σ H locs S hM => ?_)
      exact w_vret E S hM hr hk dX3_noteStraight_37
    · skip
      refine w_aload_n E hl 3 dX3_noteStraight_19 rfl ?_
      refine w_rI E S hM lk_3_93 rfl dX3_noteStraight_20 (fun v20 hM => ?_)
      refine w_aload_n E hl 0 dX3_noteStraight_23 rfl ?_
      refine w_rI E S hM lk_3_93 rfl dX3_noteStraight_24 (fun v24 hM => ?_)
      refine lv_icmp_ge (tgt := 37) E.1 E.2.1 dX3_noteStraight_27 (by decide) (fun c27 => ?_) (fun c27 => ?_)
      · replace hM := x_okT hM c27
        exact w_vret E S hM hr hk dX3_noteStraight_37
      · replace hM := x_okF hM c27
        refine w_aload_n E hl 1 dX3_noteStraight_30 rfl ?_
        refine w_rR E S hM lk_3_27 rfl dX3_noteStraight_31 (fun v31 hM => ?_)
        refine w_iload_n E hl 2 dX3_noteStraight_34 rfl ?_
        refine w_aload_n E hl 3 dX3_noteStraight_35 rfl ?_
        refine w_sQ E S hM ⟨by decide, by decide, by decide, rfl⟩ dX3_noteStraight_36 (fun σ H locs S hM => ?_)
        exact w_vret E S hM hr hk dX3_noteStraight_37
  · replace hM := x_okT hM c4
    exact w_vret E S hM hr hk dX3_noteStraight_7
theorem dX3_leastOf_0 : decode cX3_leastOf 0 = .ok (.iload_n 1, 1) := by decide +kernel
theorem dX3_leastOf_1 : decode cX3_leastOf 1 = .ok (.iload_n 2, 1) := by decide +kernel
theorem dX3_leastOf_2 : decode cX3_leastOf 2 = .ok (.invokestatic 50, 3) := by decide +kernel
theorem dX3_leastOf_5 : decode cX3_leastOf 5 = .ok (.istore_n 3, 1) := by decide +kernel
theorem dX3_leastOf_6 : decode cX3_leastOf 6 = .ok (.iload_n 3, 1) := by decide +kernel
theorem dX3_leastOf_7 : decode cX3_leastOf 7 = .ok (.invokestatic 89, 3) := by decide +kernel
theorem dX3_leastOf_10 : decode cX3_leastOf 10 = .ok (.ifCond .eq 12, 3) := by decide +kernel
theorem dX3_leastOf_13 : decode cX3_leastOf 13 = .ok (.aload_n 0, 1) := by decide +kernel
theorem dX3_leastOf_14 : decode cX3_leastOf 14 = .ok (.getfield 23, 3) := by decide +kernel
theorem dX3_leastOf_17 : decode cX3_leastOf 17 = .ok (.iload_n 3, 1) := by decide +kernel
theorem dX3_leastOf_18 : decode cX3_leastOf 18 = .ok (.iaload, 1) := by decide +kernel
theorem dX3_leastOf_19 : decode cX3_leastOf 19 = .ok (.goto 5, 3) := by decide +kernel
theorem dX3_leastOf_22 : decode cX3_leastOf 22 = .ok (.ldc 33, 2) := by decide +kernel
theorem dX3_leastOf_24 : decode cX3_leastOf 24 = .ok (.ireturn, 1) := by decide +kernel
theorem mcX3_leastOf : x_mc yX3_leastOf cX3_leastOf 4 (some .int) 2 := ⟨wd_230, wd_2, by decide +kernel⟩
set_option maxHeartbeats 4000000 in
set_option maxRecDepth 100000 in
theorem kX3_leastOf (l : Launch) (base : Nat) (D : va_G) (dA : Nat → ClassId) (F : Nat) (r0 : Option Nat) (x1 : Int32) (x2 : Int32) : x_Met l base D dA yX3_leastOf cX3_leastOf 4 (some .int) 1 21 [va_rf r0, .int x1, .int x2] (mX3_leastOf F r0 x1 x2) (fun x => some (.int x)) := by
  refine x_Met.of [(0, .inr (.inl r0)), (1, .inl x1), (2, .inl x2)] (by decide) (Nat.le_of_ble_eq_true rfl) rfl rfl ?_
  intro p e R s m args below meth c σ a τ ls hfr hlo E hr hk hn S hM hl
  have E : x_E p s m args c cX3_leastOf 4 "WireMoney$Net" D dA := E
  unfold mX3_leastOf at hM
  refine w_iload_n E hl 1 dX3_leastOf_0 rfl ?_
  refine w_iload_n E hl 2 dX3_leastOf_1 rfl ?_
  refine w_cSi (rest := []) E S hl hM (kX3_cell l base D dA F x1 x2) mcX3_cell ⟨wd_213, wd_214⟩ hfr hlo (by decide) rfl (Nat.le_of_ble_eq_true rfl) dX3_leastOf_2 rfl (fun v2 σ H locs S hM => ?_)
  refine w_istore_n (lt' := [(3, .inl v2), (0, .inr (.inl r0)), (1, .inl x1), (2, .inl x2)]) E hl dX3_leastOf_5 (by decide) rfl (fun ls hl => ?_)
  refine w_iload_n E hl 0 dX3_leastOf_6 rfl ?_
  refine w_cSi (rest := []) E S hl hM (kX3_isCell l base D dA F v2) mcX3_isCell ⟨wd_220, wd_221⟩ hfr hlo (by decide) rfl (Nat.le_of_ble_eq_true rfl) dX3_leastOf_7 rfl (fun v7 σ H locs S hM => ?_)
  refine lv_if_eq (tgt := 22) E.1 E.2.1 dX3_leastOf_10 (by decide) (fun c10 => ?_) (fun c10 => ?_)
  · replace hM := x_okT hM c10
    refine w_ldc (v := (1000000 : Int32)) E wd_30 dX3_leastOf_22 ?_
    exact w_iret E S hM hr hk dX3_leastOf_24
  · replace hM := x_okF hM c10
    refine w_aload_n E hl 1 dX3_leastOf_13 rfl ?_
    refine w_rR E S hM lk_3_23 rfl dX3_leastOf_14 (fun v14 hM => ?_)
    refine w_iload_n E hl 0 dX3_leastOf_17 rfl ?_
    refine w_aI E S hM dX3_leastOf_18 (fun v18 hM => ?_)
    refine lv_goto (tgt := 24) E.1 E.2.1 dX3_leastOf_19 (by decide) ?_
    exact w_iret E S hM hr hk dX3_leastOf_24
