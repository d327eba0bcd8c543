theorem dX9_down_0 : decode cX9_down 0 = .ok (.iload_n 1, 1) := by decide +kernel
theorem dX9_down_1 : decode cX9_down 1 = .ok (.iconst 0, 1) := by decide +kernel
theorem dX9_down_2 : decode cX9_down 2 = .ok (.aload_n 0, 1) := by decide +kernel
theorem dX9_down_3 : decode cX9_down 3 = .ok (.getfield 149, 3) := by decide +kernel
theorem dX9_down_6 : decode cX9_down 6 = .ok (.iconst 1, 1) := by decide +kernel
theorem dX9_down_7 : decode cX9_down 7 = .ok (.isub, 1) := by decide +kernel
theorem dX9_down_8 : decode cX9_down 8 = .ok (.invokestatic 138, 3) := by decide +kernel
theorem dX9_down_11 : decode cX9_down 11 = .ok (.ifCond .eq 16, 3) := by decide +kernel
theorem dX9_down_14 : decode cX9_down 14 = .ok (.iload_n 2, 1) := by decide +kernel
theorem dX9_down_15 : decode cX9_down 15 = .ok (.aload_n 0, 1) := by decide +kernel
theorem dX9_down_16 : decode cX9_down 16 = .ok (.getfield 146, 3) := by decide +kernel
theorem dX9_down_19 : decode cX9_down 19 = .ok (.if_icmp .lt 8, 3) := by decide +kernel
theorem dX9_down_22 : decode cX9_down 22 = .ok (.iload_n 3, 1) := by decide +kernel
theorem dX9_down_23 : decode cX9_down 23 = .ok (.iload_n 2, 1) := by decide +kernel
theorem dX9_down_24 : decode cX9_down 24 = .ok (.if_icmp .gt 5, 3) := by decide +kernel
theorem dX9_down_27 : decode cX9_down 27 = .ok (.iconst 0, 1) := by decide +kernel
theorem dX9_down_28 : decode cX9_down 28 = .ok (.ireturn, 1) := by decide +kernel
theorem dX9_down_29 : decode cX9_down 29 = .ok (.aload_n 0, 1) := by decide +kernel
theorem dX9_down_30 : decode cX9_down 30 = .ok (.getfield 34, 3) := by decide +kernel
theorem dX9_down_33 : decode cX9_down 33 = .ok (.iload_n 1, 1) := by decide +kernel
theorem dX9_down_34 : decode cX9_down 34 = .ok (.iload_n 2, 1) := by decide +kernel
theorem dX9_down_35 : decode cX9_down 35 = .ok (.iastore, 1) := by decide +kernel
theorem dX9_down_36 : decode cX9_down 36 = .ok (.aload_n 0, 1) := by decide +kernel
theorem dX9_down_37 : decode cX9_down 37 = .ok (.getfield 37, 3) := by decide +kernel
theorem dX9_down_40 : decode cX9_down 40 = .ok (.iload_n 1, 1) := by decide +kernel
theorem dX9_down_41 : decode cX9_down 41 = .ok (.iload_n 3, 1) := by decide +kernel
theorem dX9_down_42 : decode cX9_down 42 = .ok (.iastore, 1) := by decide +kernel
theorem dX9_down_43 : decode cX9_down 43 = .ok (.iconst 1, 1) := by decide +kernel
theorem dX9_down_44 : decode cX9_down 44 = .ok (.ireturn, 1) := by decide +kernel
theorem mcX9_down : x_mc yX9_down cX9_down 4 (some .boolean) 3 := ⟨wd_776, wd_4, by decide +kernel⟩
set_option maxHeartbeats 4000000 in
set_option maxRecDepth 100000 in
theorem kX9_down (l : Launch) (base : Nat) (D : va_G) (dA : Nat → ClassId) (F : Nat) (r0 : Option Nat) (x1 : Int32) (x2 : Int32) (x3 : Int32) : x_Met l base D dA yX9_down cX9_down 4 (some .boolean) 1 22 [va_rf r0, .int x1, .int x2, .int x3] (mX9_down F r0 x1 x2 x3) (fun x => some (.int x)) := by
  refine x_Met.of [(0, .inr (.inl r0)), (1, .inl x1), (2, .inl x2), (3, .inl x3)] (by decide) (Nat.le_of_ble_eq_true rfl) rfl rfl ?_
  intro p e R s m args below meth c σ a τ ls hfr hlo E hr hk hn S hM hl
  have E : x_E p s m args c cX9_down 4 "WireMoneyModel" D dA := E
  unfold mX9_down at hM
  refine w_iload_n E hl 1 dX9_down_0 rfl ?_
  refine lv_iconst (v := (0 : Int32)) E.1 E.2.1 dX9_down_1 (by decide) ?_
  refine w_aload_n E hl 0 dX9_down_2 rfl ?_
  refine w_rI E S hM lk_9_149 rfl dX9_down_3 (fun v3 hM => ?_)
  refine lv_iconst (v := (1 : Int32)) E.1 E.2.1 dX9_down_6 (by decide) ?_
  refine lv_isub E.1 E.2.1 dX9_down_7 ?_
  refine w_cSi (rest := []) E S hl hM (kX9_in l base D dA F x1 (0 : Int32) (v3 - (1 : Int32))) mcX9_in ⟨wd_762, wd_763⟩ hfr hlo (by decide) rfl (Nat.le_of_ble_eq_true rfl) dX9_down_8 rfl (fun v8 σ H locs S hM => ?_)
  refine lv_if_eq (tgt := 27) E.1 E.2.1 dX9_down_11 (by decide) (fun c11 => ?_) (fun c11 => ?_)
  · replace hM := x_okT hM c11
    refine lv_iconst (v := (0 : Int32)) E.1 E.2.1 dX9_down_27 (by decide) ?_
    exact w_zretc E S hM (by decide) hr hk dX9_down_28
  · replace hM := x_okF hM c11
    refine w_iload_n E hl 2 dX9_down_14 rfl ?_
    refine w_aload_n E hl 0 dX9_down_15 rfl ?_
    refine w_rI E S hM lk_9_146 rfl dX9_down_16 (fun v16 hM => ?_)
    refine lv_icmp_lt (tgt := 27) E.1 E.2.1 dX9_down_19 (by decide) (fun c19 => ?_) (fun c19 => ?_)
    · replace hM := x_okT hM c19
      refine lv_iconst (v := (0 : Int32)) E.1 E.2.1 dX9_down_27 (by decide) ?_
      exact w_zretc E S hM (by decide) hr hk dX9_down_28
    · replace hM := x_okF hM c19
      refine w_iload_n E hl 3 dX9_down_22 rfl ?_
      refine w_iload_n E hl 2 dX9_down_23 rfl ?_
      refine lv_icmp_gt (tgt := 29) E.1 E.2.1 dX9_down_24 (by decide) (fun c24 => ?_) (fun c24 => ?_)
      · replace hM := x_okT hM c24
        refine w_aload_n E hl 0 dX9_down_29 rfl ?_
        refine w_rR E S hM lk_9_34 rfl dX9_down_30 (fun v30 hM => ?_)
        refine w_iload_n E hl 1 dX9_down_33 rfl ?_
        refine w_iload_n E hl 2 dX9_down_34 rfl ?_
        refine w_sI E S hM dX9_down_35 (fun σ H locs S hM => ?_)
        refine w_aload_n E hl 0 dX9_down_36 rfl ?_
        refine w_rR E S hM lk_9_37 rfl dX9_down_37 (fun v37 hM => ?_)
        refine w_iload_n E hl 1 dX9_down_40 rfl ?_
        refine w_iload_n E hl 3 dX9_down_41 rfl ?_
        refine w_sI E S hM dX9_down_42 (fun σ H locs S hM => ?_)
        refine lv_iconst (v := (1 : Int32)) E.1 E.2.1 dX9_down_43 (by decide) ?_
        exact w_zretc E S hM (by decide) hr hk dX9_down_44
      · replace hM := x_okF hM c24
        refine lv_iconst (v := (0 : Int32)) E.1 E.2.1 dX9_down_27 (by decide) ?_
        exact w_zretc E S hM (by decide) hr hk dX9_down_28
theorem dX9_least_0 : decode cX9_least 0 = .ok (.aload_n 0, 1) := by decide +kernel
theorem dX9_least_1 : decode cX9_least 1 = .ok (.iload_n 1, 1) := by decide +kernel
theorem dX9_least_2 : decode cX9_least 2 = .ok (.invokevirtual 152, 3) := by decide +kernel
theorem dX9_least_5 : decode cX9_least 5 = .ok (.ifCond .eq 11, 3) := by decide +kernel
theorem dX9_least_8 : decode cX9_least 8 = .ok (.aload_n 0, 1) := by decide +kernel
theorem dX9_least_9 : decode cX9_least 9 = .ok (.iload_n 2, 1) := by decide +kernel
theorem dX9_least_10 : decode cX9_least 10 = .ok (.invokevirtual 152, 3) := by decide +kernel
theorem dX9_least_13 : decode cX9_least 13 = .ok (.ifCond .ne 5, 3) := by decide +kernel
theorem dX9_least_16 : decode cX9_least 16 = .ok (.iconst (-1), 1) := by decide +kernel
theorem dX9_least_17 : decode cX9_least 17 = .ok (.ireturn, 1) := by decide +kernel
theorem dX9_least_18 : decode cX9_least 18 = .ok (.aload_n 0, 1) := by decide +kernel
theorem dX9_least_19 : decode cX9_least 19 = .ok (.getfield 40, 3) := by decide +kernel
theorem dX9_least_22 : decode cX9_least 22 = .ok (.bipush 10, 2) := by decide +kernel
theorem dX9_least_24 : decode cX9_least 24 = .ok (.iload_n 1, 1) := by decide +kernel
theorem dX9_least_25 : decode cX9_least 25 = .ok (.imul, 1) := by decide +kernel
theorem dX9_least_26 : decode cX9_least 26 = .ok (.iload_n 2, 1) := by decide +kernel
theorem dX9_least_27 : decode cX9_least 27 = .ok (.iadd, 1) := by decide +kernel
theorem dX9_least_28 : decode cX9_least 28 = .ok (.iaload, 1) := by decide +kernel
theorem dX9_least_29 : decode cX9_least 29 = .ok (.istore_n 3, 1) := by decide +kernel
theorem dX9_least_30 : decode cX9_least 30 = .ok (.iload_n 3, 1) := by decide +kernel
theorem dX9_least_31 : decode cX9_least 31 = .ok (.ldc 145, 2) := by decide +kernel
theorem dX9_least_33 : decode cX9_least 33 = .ok (.if_icmp .lt 7, 3) := by decide +kernel
theorem dX9_least_36 : decode cX9_least 36 = .ok (.iconst (-1), 1) := by decide +kernel
theorem dX9_least_37 : decode cX9_least 37 = .ok (.goto 4, 3) := by decide +kernel
theorem dX9_least_40 : decode cX9_least 40 = .ok (.iload_n 3, 1) := by decide +kernel
theorem dX9_least_41 : decode cX9_least 41 = .ok (.ireturn, 1) := by decide +kernel
theorem mcX9_least : x_mc yX9_least cX9_least 4 (some .int) 2 := ⟨wd_780, wd_4, by decide +kernel⟩
set_option maxHeartbeats 4000000 in
set_option maxRecDepth 100000 in
theorem kX9_least (l : Launch) (base : Nat) (D : va_G) (dA : Nat → ClassId) (F : Nat) (r0 : Option Nat) (x1 : Int32) (x2 : Int32) : x_Met l base D dA yX9_least cX9_least 4 (some .int) 2 43 [va_rf r0, .int x1, .int x2] (mX9_least F r0 x1 x2) (fun x => some (.int x)) := by
  refine x_Met.of [(0, .inr (.inl r0)), (1, .inl x1), (2, .inl x2)] (by decide) (Nat.le_of_ble_eq_true rfl) rfl rfl ?_
  intro p e R s m args below meth c σ a τ ls hfr hlo E hr hk hn S hM hl
  have E : x_E p s m args c cX9_least 4 "WireMoneyModel" D dA := E
  unfold mX9_least at hM
  refine w_aload_n E hl 0 dX9_least_0 rfl ?_
  refine w_iload_n E hl 1 dX9_least_1 rfl ?_
  refine w_cVi (rest := []) E S hl hM (kX9_isCounter l base D dA F r0 x1) mcX9_isCounter ⟨by decide, rfl, wd_769, wd_771, wp_22⟩ hfr hlo (by decide) rfl (Nat.le_of_ble_eq_true rfl) dX9_least_2 rfl (fun v2 σ H locs S hM => ?_)
  refine lv_if_eq (tgt := 16) E.1 E.2.1 dX9_least_5 (by decide) (fun c5 => ?_) (fun c5 => ?_)
  · replace hM := x_okT hM c5
    refine lv_iconst (v := (-1 : Int32)) E.1 E.2.1 dX9_least_16 (by decide) ?_
    exact w_iret E S hM hr hk dX9_least_17
  · replace hM := x_okF hM c5
    refine w_aload_n E hl 0 dX9_least_8 rfl ?_
    refine w_iload_n E hl 2 dX9_least_9 rfl ?_
    refine w_cVi (rest := []) E S hl hM (kX9_isCounter l base D dA F r0 x2) mcX9_isCounter ⟨by decide, rfl, wd_769, wd_771, wp_22⟩ hfr hlo (by decide) rfl (Nat.le_of_ble_eq_true rfl) dX9_least_10 rfl (fun v10 σ H locs S hM => ?_)
    refine lv_if_ne (tgt := 18) E.1 E.2.1 dX9_least_13 (by decide) (fun c13 => ?_) (fun c13 => ?_)
    · replace hM := x_okF hM c13
      refine w_aload_n E hl 0 dX9_least_18 rfl ?_
      refine w_rR E S hM lk_9_40 rfl dX9_least_19 (fun v19 hM => ?_)
      refine lv_bipush (v := (10 : Int32)) E.1 E.2.1 dX9_least_22 (by decide) ?_
      refine w_iload_n E hl 1 dX9_least_24 rfl ?_
      refine lv_imul E.1 E.2.1 dX9_least_25 ?_
      refine w_iload_n E hl 2 dX9_least_26 rfl ?_
      refine lv_iadd E.1 E.2.1 dX9_least_27 ?_
      refine w_aI E S hM dX9_least_28 (fun v28 hM => ?_)
      refine w_istore_n (lt' := [(3, .inl v28), (0, .inr (.inl r0)), (1, .inl x1), (2, .inl x2)]) E hl dX9_least_29 (by decide) rfl (fun ls hl => ?_)
      refine w_iload_n E hl 0 dX9_least_30 rfl ?_
      refine w_ldc (v := (1000000 : Int32)) E wd_605 dX9_least_31 ?_
      refine lv_icmp_lt (tgt := 40) E.1 E.2.1 dX9_least_33 (by decide) (fun c33 => ?_) (fun c33 => ?_)
      · replace hM := x_okT hM c33
        refine w_iload_n E hl 0 dX9_least_40 rfl ?_
        exact w_iret E S hM hr hk dX9_least_41
      · replace hM := x_okF hM c33
        refine lv_iconst (v := (-1 : Int32)) E.1 E.2.1 dX9_least_36 (by decide) ?_
        refine lv_goto (tgt := 41) E.1 E.2.1 dX9_least_37 (by decide) ?_
        exact w_iret E S hM hr hk dX9_least_41
    · replace hM := x_okT hM c13
      refine lv_iconst (v := (-1 : Int32)) E.1 E.2.1 dX9_least_16 (by decide) ?_
      exact w_iret E S hM hr hk dX9_least_17
theorem dX9_otherEnd_0 : decode cX9_otherEnd 0 = .ok (.aload_n 0, 1) := by decide +kernel
theorem dX9_otherEnd_1 : decode cX9_otherEnd 1 = .ok (.getfield 25, 3) := by decide +kernel
theorem dX9_otherEnd_4 : decode cX9_otherEnd 4 = .ok (.iload_n 1, 1) := by decide +kernel
theorem dX9_otherEnd_5 : decode cX9_otherEnd 5 = .ok (.iaload, 1) := by decide +kernel
theorem dX9_otherEnd_6 : decode cX9_otherEnd 6 = .ok (.iload_n 2, 1) := by decide +kernel
theorem dX9_otherEnd_7 : decode cX9_otherEnd 7 = .ok (.if_icmp .ne 12, 3) := by decide +kernel
theorem dX9_otherEnd_10 : decode cX9_otherEnd 10 = .ok (.aload_n 0, 1) := by decide +kernel
theorem dX9_otherEnd_11 : decode cX9_otherEnd 11 = .ok (.getfield 28, 3) := by decide +kernel
theorem dX9_otherEnd_14 : decode cX9_otherEnd 14 = .ok (.iload_n 1, 1) := by decide +kernel
theorem dX9_otherEnd_15 : decode cX9_otherEnd 15 = .ok (.iaload, 1) := by decide +kernel
theorem dX9_otherEnd_16 : decode cX9_otherEnd 16 = .ok (.goto 23, 3) := by decide +kernel
theorem dX9_otherEnd_19 : decode cX9_otherEnd 19 = .ok (.aload_n 0, 1) := by decide +kernel
theorem dX9_otherEnd_20 : decode cX9_otherEnd 20 = .ok (.getfield 28, 3) := by decide +kernel
theorem dX9_otherEnd_23 : decode cX9_otherEnd 23 = .ok (.iload_n 1, 1) := by decide +kernel
theorem dX9_otherEnd_24 : decode cX9_otherEnd 24 = .ok (.iaload, 1) := by decide +kernel
theorem dX9_otherEnd_25 : decode cX9_otherEnd 25 = .ok (.iload_n 2, 1) := by decide +kernel
theorem dX9_otherEnd_26 : decode cX9_otherEnd 26 = .ok (.if_icmp .ne 12, 3) := by decide +kernel
theorem dX9_otherEnd_29 : decode cX9_otherEnd 29 = .ok (.aload_n 0, 1) := by decide +kernel
theorem dX9_otherEnd_30 : decode cX9_otherEnd 30 = .ok (.getfield 25, 3) := by decide +kernel
theorem dX9_otherEnd_33 : decode cX9_otherEnd 33 = .ok (.iload_n 1, 1) := by decide +kernel
theorem dX9_otherEnd_34 : decode cX9_otherEnd 34 = .ok (.iaload, 1) := by decide +kernel
theorem dX9_otherEnd_35 : decode cX9_otherEnd 35 = .ok (.goto 4, 3) := by decide +kernel
theorem dX9_otherEnd_38 : decode cX9_otherEnd 38 = .ok (.iconst (-1), 1) := by decide +kernel
theorem dX9_otherEnd_39 : decode cX9_otherEnd 39 = .ok (.ireturn, 1) := by decide +kernel
theorem mcX9_otherEnd : x_mc yX9_otherEnd cX9_otherEnd 3 (some .int) 2 := ⟨wd_825, wd_4, by decide +kernel⟩
set_option maxHeartbeats 4000000 in
set_option maxRecDepth 100000 in
theorem kX9_otherEnd (l : Launch) (base : Nat) (D : va_G) (dA : Nat → ClassId) (F : Nat) (r0 : Option Nat) (x1 : Int32) (x2 : Int32) : x_Met l base D dA yX9_otherEnd cX9_otherEnd 3 (some .int) 0 0 [va_rf r0, .int x1, .int x2] (mX9_otherEnd F r0 x1 x2) (fun x => some (.int x)) := by
  refine x_Met.of [(0, .inr (.inl r0)), (1, .inl x1), (2, .inl x2)] (by decide) (Nat.le_of_ble_eq_true rfl) rfl rfl ?_
  intro p e R s m args below meth c σ a τ ls hfr hlo E hr hk hn S hM hl
  have E : x_E p s m args c cX9_otherEnd 3 "WireMoneyModel" D dA := E
  unfold mX9_otherEnd at hM
  refine w_aload_n E hl 0 dX9_otherEnd_0 rfl ?_
  refine w_rR E S hM lk_9_25 rfl dX9_otherEnd_1 (fun v1 hM => ?_)
  refine w_iload_n E hl 1 dX9_otherEnd_4 rfl ?_
  refine w_aI E S hM dX9_otherEnd_5 (fun v5 hM => ?_)
  refine w_iload_n E hl 2 dX9_otherEnd_6 rfl ?_
  refine lv_icmp_ne (tgt := 19) E.1 E.2.1 dX9_otherEnd_7 (by decide) (fun c7 => ?_) (fun c7 => ?_)
  · replace hM := x_okF hM c7
    refine w_aload_n E hl 0 dX9_otherEnd_19 rfl ?_
    refine w_rR E S hM lk_9_28 rfl dX9_otherEnd_20 (fun v20 hM => ?_)
    refine w_iload_n E hl 1 dX9_otherEnd_23 rfl ?_
    refine w_aI E S hM dX9_otherEnd_24 (fun v24 hM => ?_)
    refine w_iload_n E hl 2 dX9_otherEnd_25 rfl ?_
    refine lv_icmp_ne (tgt := 38) E.1 E.2.1 dX9_otherEnd_26 (by decide) (fun c26 => ?_) (fun c26 => ?_)
    · replace hM := x_okF hM c26
      refine lv_iconst (v := (-1 : Int32)) E.1 E.2.1 dX9_otherEnd_38 (by decide) ?_
      exact w_iret E S hM hr hk dX9_otherEnd_39
    · replace hM := x_okT hM c26
      refine w_aload_n E hl 0 dX9_otherEnd_29 rfl ?_
      refine w_rR E S hM lk_9_25 rfl dX9_otherEnd_30 (fun v30 hM => ?_)
      refine w_iload_n E hl 1 dX9_otherEnd_33 rfl ?_
      refine w_aI E S hM dX9_otherEnd_34 (fun v34 hM => ?_)
      refine lv_goto (tgt := 39) E.1 E.2.1 dX9_otherEnd_35 (by decide) ?_
      exact w_iret E S hM hr hk dX9_otherEnd_39
  · replace hM := x_okT hM c7
    refine w_aload_n E hl 0 dX9_otherEnd_10 rfl ?_
    refine w_rR E S hM lk_9_28 rfl dX9_otherEnd_11 (fun v11 hM => ?_)
    refine w_iload_n E hl 1 dX9_otherEnd_14 rfl ?_
    refine w_aI E S hM dX9_otherEnd_15 (fun v15 hM => ?_)
    refine lv_goto (tgt := 39) E.1 E.2.1 dX9_otherEnd_16 (by decide) ?_
    exact w_iret E S hM hr hk dX9_otherEnd_39
theorem dX9_nextWire_0 : decode cX9_nextWire 0 = .ok (.iconst (-1), 1) := by decide +kernel
theorem dX9_nextWire_1 : decode cX9_nextWire 1 = .ok (.istore_n 3, 1) := by decide +kernel
theorem dX9_nextWire_2 : decode cX9_nextWire 2 = .ok (.iconst 0, 1) := by decide +kernel
theorem dX9_nextWire_3 : decode cX9_nextWire 3 = .ok (.istore 4, 2) := by decide +kernel
theorem dX9_nextWire_5 : decode cX9_nextWire 5 = .ok (.iload 4, 2) := by decide +kernel
theorem dX9_nextWire_7 : decode cX9_nextWire 7 = .ok (.aload_n 0, 1) := by decide +kernel
theorem dX9_nextWire_8 : decode cX9_nextWire 8 = .ok (.getfield 149, 3) := by decide +kernel
theorem dX9_nextWire_11 : decode cX9_nextWire 11 = .ok (.if_icmp .ge 97, 3) := by decide +kernel
theorem dX9_nextWire_14 : decode cX9_nextWire 14 = .ok (.aload_n 0, 1) := by decide +kernel
theorem dX9_nextWire_15 : decode cX9_nextWire 15 = .ok (.iload 4, 2) := by decide +kernel
theorem dX9_nextWire_17 : decode cX9_nextWire 17 = .ok (.iload_n 1, 1) := by decide +kernel
theorem dX9_nextWire_18 : decode cX9_nextWire 18 = .ok (.invokevirtual 156, 3) := by decide +kernel
theorem dX9_nextWire_21 : decode cX9_nextWire 21 = .ok (.istore 5, 2) := by decide +kernel
theorem dX9_nextWire_23 : decode cX9_nextWire 23 = .ok (.iload 5, 2) := by decide +kernel
theorem dX9_nextWire_25 : decode cX9_nextWire 25 = .ok (.iconst (-1), 1) := by decide +kernel
theorem dX9_nextWire_26 : decode cX9_nextWire 26 = .ok (.if_icmp .eq 76, 3) := by decide +kernel
theorem dX9_nextWire_29 : decode cX9_nextWire 29 = .ok (.aload_n 0, 1) := by decide +kernel
theorem dX9_nextWire_30 : decode cX9_nextWire 30 = .ok (.getfield 40, 3) := by decide +kernel
theorem dX9_nextWire_33 : decode cX9_nextWire 33 = .ok (.bipush 10, 2) := by decide +kernel
theorem dX9_nextWire_35 : decode cX9_nextWire 35 = .ok (.iload 5, 2) := by decide +kernel
theorem dX9_nextWire_37 : decode cX9_nextWire 37 = .ok (.imul, 1) := by decide +kernel
theorem dX9_nextWire_38 : decode cX9_nextWire 38 = .ok (.iload_n 2, 1) := by decide +kernel
theorem dX9_nextWire_39 : decode cX9_nextWire 39 = .ok (.iadd, 1) := by decide +kernel
theorem dX9_nextWire_40 : decode cX9_nextWire 40 = .ok (.iaload, 1) := by decide +kernel
theorem dX9_nextWire_41 : decode cX9_nextWire 41 = .ok (.ldc 145, 2) := by decide +kernel
theorem dX9_nextWire_43 : decode cX9_nextWire 43 = .ok (.if_icmp .ge 59, 3) := by decide +kernel
theorem dX9_nextWire_46 : decode cX9_nextWire 46 = .ok (.aload_n 0, 1) := by decide +kernel
theorem dX9_nextWire_47 : decode cX9_nextWire 47 = .ok (.getfield 31, 3) := by decide +kernel
theorem dX9_nextWire_50 : decode cX9_nextWire 50 = .ok (.iload 4, 2) := by decide +kernel
theorem dX9_nextWire_52 : decode cX9_nextWire 52 = .ok (.iaload, 1) := by decide +kernel
theorem dX9_nextWire_53 : decode cX9_nextWire 53 = .ok (.aload_n 0, 1) := by decide +kernel
theorem dX9_nextWire_54 : decode cX9_nextWire 54 = .ok (.getfield 40, 3) := by decide +kernel
theorem dX9_nextWire_57 : decode cX9_nextWire 57 = .ok (.bipush 10, 2) := by decide +kernel
theorem dX9_nextWire_59 : decode cX9_nextWire 59 = .ok (.iload 5, 2) := by decide +kernel
theorem dX9_nextWire_61 : decode cX9_nextWire 61 = .ok (.imul, 1) := by decide +kernel
theorem dX9_nextWire_62 : decode cX9_nextWire 62 = .ok (.iload_n 2, 1) := by decide +kernel
theorem dX9_nextWire_63 : decode cX9_nextWire 63 = .ok (.iadd, 1) := by decide +kernel
theorem dX9_nextWire_64 : decode cX9_nextWire 64 = .ok (.iaload, 1) := by decide +kernel
theorem dX9_nextWire_65 : decode cX9_nextWire 65 = .ok (.iadd, 1) := by decide +kernel
theorem dX9_nextWire_66 : decode cX9_nextWire 66 = .ok (.aload_n 0, 1) := by decide +kernel
theorem dX9_nextWire_67 : decode cX9_nextWire 67 = .ok (.getfield 40, 3) := by decide +kernel
theorem dX9_nextWire_70 : decode cX9_nextWire 70 = .ok (.bipush 10, 2) := by decide +kernel
theorem dX9_nextWire_72 : decode cX9_nextWire 72 = .ok (.iload_n 1, 1) := by decide +kernel
theorem dX9_nextWire_73 : decode cX9_nextWire 73 = .ok (.imul, 1) := by decide +kernel
theorem dX9_nextWire_74 : decode cX9_nextWire 74 = .ok (.iload_n 2, 1) := by decide +kernel
theorem dX9_nextWire_75 : decode cX9_nextWire 75 = .ok (.iadd, 1) := by decide +kernel
theorem dX9_nextWire_76 : decode cX9_nextWire 76 = .ok (.iaload, 1) := by decide +kernel
theorem dX9_nextWire_77 : decode cX9_nextWire 77 = .ok (.if_icmp .eq 6, 3) := by decide +kernel
theorem dX9_nextWire_80 : decode cX9_nextWire 80 = .ok (.goto 22, 3) := by decide +kernel
theorem dX9_nextWire_83 : decode cX9_nextWire 83 = .ok (.iload_n 3, 1) := by decide +kernel
theorem dX9_nextWire_84 : decode cX9_nextWire 84 = .ok (.iconst (-1), 1) := by decide +kernel
theorem dX9_nextWire_85 : decode cX9_nextWire 85 = .ok (.if_icmp .eq 14, 3) := by decide +kernel
theorem dX9_nextWire_88 : decode cX9_nextWire 88 = .ok (.iload 5, 2) := by decide +kernel
theorem dX9_nextWire_90 : decode cX9_nextWire 90 = .ok (.aload_n 0, 1) := by decide +kernel
theorem dX9_nextWire_91 : decode cX9_nextWire 91 = .ok (.iload_n 3, 1) := by decide +kernel
theorem dX9_nextWire_92 : decode cX9_nextWire 92 = .ok (.iload_n 1, 1) := by decide +kernel
theorem dX9_nextWire_93 : decode cX9_nextWire 93 = .ok (.invokevirtual 156, 3) := by decide +kernel
theorem dX9_nextWire_96 : decode cX9_nextWire 96 = .ok (.if_icmp .ge 6, 3) := by decide +kernel
theorem dX9_nextWire_99 : decode cX9_nextWire 99 = .ok (.iload 4, 2) := by decide +kernel
theorem dX9_nextWire_101 : decode cX9_nextWire 101 = .ok (.istore_n 3, 1) := by decide +kernel
theorem dX9_nextWire_102 : decode cX9_nextWire 102 = .ok (.iinc 4 1, 3) := by decide +kernel
theorem dX9_nextWire_105 : decode cX9_nextWire 105 = .ok (.goto (-100), 3) := by decide +kernel
theorem dX9_nextWire_108 : decode cX9_nextWire 108 = .ok (.iload_n 3, 1) := by decide +kernel
theorem dX9_nextWire_109 : decode cX9_nextWire 109 = .ok (.ireturn, 1) := by decide +kernel
set_option maxHeartbeats 4000000 in
set_option maxRecDepth 100000 in
theorem bX9_nextWire_5 {p : Program} {l : Launch} {e : Env} {R : Room} {s : State} {m : MethodId} {args : Array Value} {below : List Frame} {meth : Method} {c : Code} {base : Nat} {D : va_G} {dA : Nat → ClassId} {σ0 : PH} {z : Int32 × PH} {F : Nat} (E : x_E p s m args c cX9_nextWire 6 "WireMoneyModel" D dA) (hr : meth.sig.returnType = (some .int)) (hk : meth.locks = false) (hfr : R.frames = 1) (hlo : R.locals = 22) : ∀ (n : Nat) (y0 : Option Nat) (y1 : Int32) (y2 : Int32) (y3 : Int32) (y4 : Int32) (σ : PH) (H : Heap) (locs : List Loc) (ls : Array Slot), x_S base D dA R s σ0 z.2 σ H locs → x_rn (mX9_nextWire_5 F n y0 y1 y2 y3 y4) σ = some z → x_lv ls 6 [(0, .inr (.inl y0)), (1, .inl y1), (2, .inl y2), (3, .inl y3), (4, .inl y4)] → W p l e R s m args below meth c H locs (x_N σ - x_N σ0) (x_U σ - x_U σ0) (x_end below args s base D dA (fun x => some (.int x)) σ0 z) (F0 m 5 ls []) := by
  intro n
  induction n with
  | zero =>
    intro y0 y1 y2 y3 y4 σ H locs ls S hM hl
    cases hM
  | succ n ih =>
    intro y0 y1 y2 y3 y4 σ H locs ls S hM hl
    rw [mX9_nextWire_5] at hM
    refine w_iload E hl 4 dX9_nextWire_5 rfl ?_
    refine w_aload_n E hl 0 dX9_nextWire_7 rfl ?_
    refine w_rI E S hM lk_9_149 rfl dX9_nextWire_8 (fun v8 hM => ?_)
    refine lv_icmp_ge (tgt := 108) E.1 E.2.1 dX9_nextWire_11 (by decide) (fun c11 => ?_) (fun c11 => ?_)
    · replace hM := x_okT hM c11
      refine w_iload_n E hl 3 dX9_nextWire_108 rfl ?_
      exact w_iret E S hM hr hk dX9_nextWire_109
    · replace hM := x_okF hM c11
      refine w_aload_n E hl 0 dX9_nextWire_14 rfl ?_
      refine w_iload E hl 4 dX9_nextWire_15 rfl ?_
      refine w_iload_n E hl 1 dX9_nextWire_17 rfl ?_
      refine w_cVi (rest := []) E S hl hM (kX9_otherEnd l base D dA F y0 y4 y1) mcX9_otherEnd ⟨by decide, rfl, wd_822, wd_824, wp_28⟩ hfr hlo (by decide) rfl (Nat.le_of_ble_eq_true rfl) dX9_nextWire_18 rfl (fun v18 σ H locs S hM => ?_)
      refine w_istore (lt' := [(5, .inl v18), (0, .inr (.inl y0)), (1, .inl y1), (2, .inl y2), (3, .inl y3), (4, .inl y4)]) E hl dX9_nextWire_21 (by decide) rfl (fun ls hl => ?_)
      refine w_iload E hl 0 dX9_nextWire_23 rfl ?_
      refine lv_iconst (v := (-1 : Int32)) E.1 E.2.1 dX9_nextWire_25 (by decide) ?_
      refine lv_icmp_eq (tgt := 102) E.1 E.2.1 dX9_nextWire_26 (by decide) (fun c26 => ?_) (fun c26 => ?_)
      · replace hM := x_okT hM c26
        refine w_iincN (ltf := fun v102 => [(4, .inl v102), (5, .inl v18), (0, .inr (.inl y0)), (1, .inl y1), (2, .inl y2), (3, .inl y3)]) E hl 5 hM dX9_nextWire_102 rfl (by decide) (by decide) (fun _ => rfl) (fun v102 ls hM hl => ?_)
        refine lv_goto (tgt := 5) E.1 E.2.1 dX9_nextWire_105 (by decide) ?_
        exact ih y0 y1 y2 y3 v102 _ _ _ _ S hM (x_lv_sub hl [2, 3, 4, 5, 0] rfl)
      · replace hM := x_okF hM c26
        refine w_aload_n E hl 1 dX9_nextWire_29 rfl ?_
        refine w_rR E S hM lk_9_40 rfl dX9_nextWire_30 (fun v30 hM => ?_)
        refine lv_bipush (v := (10 : Int32)) E.1 E.2.1 dX9_nextWire_33 (by decide) ?_
        refine w_iload E hl 0 dX9_nextWire_35 rfl ?_
        refine lv_imul E.1 E.2.1 dX9_nextWire_37 ?_
        refine w_iload_n E hl 3 dX9_nextWire_38 rfl ?_
        refine lv_iadd E.1 E.2.1 dX9_nextWire_39 ?_
        refine w_aI E S hM dX9_nextWire_40 (fun v40 hM => ?_)
        refine w_ldc (v := (1000000 : Int32)) E wd_605 dX9_nextWire_41 ?_
        refine lv_icmp_ge (tgt := 102) E.1 E.2.1 dX9_nextWire_43 (by decide) (fun c43 => ?_) (fun c43 => ?_)
        · replace hM := x_okT hM c43
          refine w_iincN (ltf := fun v102 => [(4, .inl v102), (5, .inl v18), (0, .inr (.inl y0)), (1, .inl y1), (2, .inl y2), (3, .inl y3)]) E hl 5 hM dX9_nextWire_102 rfl (by decide) (by decide) (fun _ => rfl) (fun v102 ls hM hl => ?_)
          refine lv_goto (tgt := 5) E.1 E.2.1 dX9_nextWire_105 (by decide) ?_
          exact ih y0 y1 y2 y3 v102 _ _ _ _ S hM (x_lv_sub hl [2, 3, 4, 5, 0] rfl)
        · replace hM := x_okF hM c43
          refine w_aload_n E hl 1 dX9_nextWire_46 rfl ?_
          refine w_rR E S hM lk_9_31 rfl dX9_nextWire_47 (fun v47 hM => ?_)
          refine w_iload E hl 5 dX9_nextWire_50 rfl ?_
          refine w_aI E S hM dX9_nextWire_52 (fun v52 hM => ?_)
          refine w_aload_n E hl 1 dX9_nextWire_53 rfl ?_
          refine w_rR E S hM lk_9_40 rfl dX9_nextWire_54 (fun v54 hM => ?_)
          refine lv_bipush (v := (10 : Int32)) E.1 E.2.1 dX9_nextWire_57 (by decide) ?_
          refine w_iload E hl 0 dX9_nextWire_59 rfl ?_
          refine lv_imul E.1 E.2.1 dX9_nextWire_61 ?_
          refine w_iload_n E hl 3 dX9_nextWire_62 rfl ?_
          refine lv_iadd E.1 E.2.1 dX9_nextWire_63 ?_
          refine w_aI E S hM dX9_nextWire_64 (fun v64 hM => ?_)
          refine lv_iadd E.1 E.2.1 dX9_nextWire_65 ?_
          refine w_aload_n E hl 1 dX9_nextWire_66 rfl ?_
          refine w_rR E S hM lk_9_40 rfl dX9_nextWire_67 (fun v67 hM => ?_)
          refine lv_bipush (v := (10 : Int32)) E.1 E.2.1 dX9_nextWire_70 (by decide) ?_
          refine w_iload_n E hl 2 dX9_nextWire_72 rfl ?_
          refine lv_imul E.1 E.2.1 dX9_nextWire_73 ?_
          refine w_iload_n E hl 3 dX9_nextWire_74 rfl ?_
          refine lv_iadd E.1 E.2.1 dX9_nextWire_75 ?_
          refine w_aI E S hM dX9_nextWire_76 (fun v76 hM => ?_)
          refine lv_icmp_eq (tgt := 83) E.1 E.2.1 dX9_nextWire_77 (by decide) (fun c77 => ?_) (fun c77 => ?_)
          · replace hM := x_okT hM c77
            refine w_iload_n E hl 4 dX9_nextWire_83 rfl ?_
            refine lv_iconst (v := (-1 : Int32)) E.1 E.2.1 dX9_nextWire_84 (by decide) ?_
            refine lv_icmp_eq (tgt := 99) E.1 E.2.1 dX9_nextWire_85 (by decide) (fun c85 => ?_) (fun c85 => ?_)
            · replace hM := x_okT hM c85
              refine w_iload E hl 5 dX9_nextWire_99 rfl ?_
              refine w_istore_n (lt' := [(3, .inl y4), (5, .inl v18), (0, .inr (.inl y0)), (1, .inl y1), (2, .inl y2), (4, .inl y4)]) E hl dX9_nextWire_101 (by decide) rfl (fun ls hl => ?_)
              refine w_iincN (ltf := fun v102 => [(4, .inl v102), (3, .inl y4), (5, .inl v18), (0, .inr (.inl y0)), (1, .inl y1), (2, .inl y2)]) E hl 5 hM dX9_nextWire_102 rfl (by decide) (by decide) (fun _ => rfl) (fun v102 ls hM hl => ?_)
              refine lv_goto (tgt := 5) E.1 E.2.1 dX9_nextWire_105 (by decide) ?_
              exact ih y0 y1 y2 y4 v102 _ _ _ _ S hM (x_lv_sub hl [3, 4, 5, 1, 0] rfl)
            · replace hM := x_okF hM c85
              refine w_iload E hl 0 dX9_nextWire_88 rfl ?_
              refine w_aload_n E hl 1 dX9_nextWire_90 rfl ?_
              refine w_iload_n E hl 4 dX9_nextWire_91 rfl ?_
              refine w_iload_n E hl 2 dX9_nextWire_92 rfl ?_
              refine w_cVi (rest := [.int v18]) E S hl hM (kX9_otherEnd l base D dA F y0 y3 y1) mcX9_otherEnd ⟨by decide, rfl, wd_822, wd_824, wp_28⟩ hfr hlo (by decide) rfl (Nat.le_of_ble_eq_true rfl) dX9_nextWire_93 rfl (fun v93 σ H locs S hM => ?_)
              refine lv_icmp_ge (tgt := 102) E.1 E.2.1 dX9_nextWire_96 (by decide) (fun c96 => ?_) (fun c96 => ?_)
              · replace hM := x_okT hM c96
                refine w_iincN (ltf := fun v102 => [(4, .inl v102), (5, .inl v18), (0, .inr (.inl y0)), (1, .inl y1), (2, .inl y2), (3, .inl y3)]) E hl 5 hM dX9_nextWire_102 rfl (by decide) (by decide) (fun _ => rfl) (fun v102 ls hM hl => ?_)
                refine lv_goto (tgt := 5) E.1 E.2.1 dX9_nextWire_105 (by decide) ?_
                exact ih y0 y1 y2 y3 v102 _ _ _ _ S hM (x_lv_sub hl [2, 3, 4, 5, 0] rfl)
              · replace hM := x_okF hM c96
                refine w_iload E hl 5 dX9_nextWire_99 rfl ?_
                refine w_istore_n (lt' := [(3, .inl y4), (5, .inl v18), (0, .inr (.inl y0)), (1, .inl y1), (2, .inl y2), (4, .inl y4)]) E hl dX9_nextWire_101 (by decide) rfl (fun ls hl => ?_)
                refine w_iincN (ltf := fun v102 => [(4, .inl v102), (3, .inl y4), (5, .inl v18), (0, .inr (.inl y0)), (1, .inl y1), (2, .inl y2)]) E hl 5 hM dX9_nextWire_102 rfl (by decide) (by decide) (fun _ => rfl) (fun v102 ls hM hl => ?_)
                refine lv_goto (tgt := 5) E.1 E.2.1 dX9_nextWire_105 (by decide) ?_
                exact ih y0 y1 y2 y4 v102 _ _ _ _ S hM (x_lv_sub hl [3, 4, 5, 1, 0] rfl)
          · replace hM := x_okF hM c77
            refine lv_goto (tgt := 102) E.1 E.2.1 dX9_nextWire_80 (by decide) ?_
            refine w_iincN (ltf := fun v102 => [(4, .inl v102), (5, .inl v18), (0, .inr (.inl y0)), (1, .inl y1), (2, .inl y2), (3, .inl y3)]) E hl 5 hM dX9_nextWire_102 rfl (by decide) (by decide) (fun _ => rfl) (fun v102 ls hM hl => ?_)
            refine lv_goto (tgt := 5) E.1 E.2.1 dX9_nextWire_105 (by decide) ?_
            exact ih y0 y1 y2 y3 v102 _ _ _ _ S hM (x_lv_sub hl [2, 3, 4, 5, 0] rfl)
theorem mcX9_nextWire : x_mc yX9_nextWire cX9_nextWire 6 (some .int) 2 := ⟨wd_821, wd_4, by decide +kernel⟩
set_option maxHeartbeats 4000000 in
set_option maxRecDepth 100000 in
theorem kX9_nextWire (l : Launch) (base : Nat) (D : va_G) (dA : Nat → ClassId) (F : Nat) (r0 : Option Nat) (x1 : Int32) (x2 : Int32) : x_Met l base D dA yX9_nextWire cX9_nextWire 6 (some .int) 1 22 [va_rf r0, .int x1, .int x2] (mX9_nextWire F r0 x1 x2) (fun x => some (.int x)) := by
  refine x_Met.of [(0, .inr (.inl r0)), (1, .inl x1), (2, .inl x2)] (by decide) (Nat.le_of_ble_eq_true rfl) rfl rfl ?_
  intro p e R s m args below meth c σ a τ ls hfr hlo E hr hk hn S hM hl
  have E : x_E p s m args c cX9_nextWire 6 "WireMoneyModel" D dA := E
  unfold mX9_nextWire at hM
  refine lv_iconst (v := (-1 : Int32)) E.1 E.2.1 dX9_nextWire_0 (by decide) ?_
  refine w_istore_n (lt' := [(3, .inl (-1 : Int32)), (0, .inr (.inl r0)), (1, .inl x1), (2, .inl x2)]) E hl dX9_nextWire_1 (by decide) rfl (fun ls hl => ?_)
  refine lv_iconst (v := (0 : Int32)) E.1 E.2.1 dX9_nextWire_2 (by decide) ?_
  refine w_istore (lt' := [(4, .inl (0 : Int32)), (3, .inl (-1 : Int32)), (0, .inr (.inl r0)), (1, .inl x1), (2, .inl x2)]) E hl dX9_nextWire_3 (by decide) rfl (fun ls hl => ?_)
  exact bX9_nextWire_5 E hr hk hfr hlo F r0 x1 x2 (-1 : Int32) (0 : Int32) _ _ _ _ S hM (x_lv_sub hl [2, 3, 4, 1, 0] rfl)
theorem dX9_band_0 : decode cX9_band 0 = .ok (.iload_n 1, 1) := by decide +kernel
theorem dX9_band_1 : decode cX9_band 1 = .ok (.iconst 1, 1) := by decide +kernel
theorem dX9_band_2 : decode cX9_band 2 = .ok (.ldc 160, 2) := by decide +kernel
theorem dX9_band_4 : decode cX9_band 4 = .ok (.invokestatic 138, 3) := by decide +kernel
theorem dX9_band_7 : decode cX9_band 7 = .ok (.ifCond .eq 45, 3) := by decide +kernel
theorem dX9_band_10 : decode cX9_band 10 = .ok (.iload_n 2, 1) := by decide +kernel
theorem dX9_band_11 : decode cX9_band 11 = .ok (.iconst 0, 1) := by decide +kernel
theorem dX9_band_12 : decode cX9_band 12 = .ok (.sipush 1000, 3) := by decide +kernel
theorem dX9_band_15 : decode cX9_band 15 = .ok (.invokestatic 138, 3) := by decide +kernel
theorem dX9_band_18 : decode cX9_band 18 = .ok (.ifCond .eq 34, 3) := by decide +kernel
theorem dX9_band_21 : decode cX9_band 21 = .ok (.aload_n 0, 1) := by decide +kernel
theorem dX9_band_22 : decode cX9_band 22 = .ok (.getfield 161, 3) := by decide +kernel
theorem dX9_band_25 : decode cX9_band 25 = .ok (.bipush 8, 2) := by decide +kernel
theorem dX9_band_27 : decode cX9_band 27 = .ok (.if_icmp .eq 25, 3) := by decide +kernel
theorem dX9_band_30 : decode cX9_band 30 = .ok (.aload_n 0, 1) := by decide +kernel
theorem dX9_band_31 : decode cX9_band 31 = .ok (.getfield 161, 3) := by decide +kernel
theorem dX9_band_34 : decode cX9_band 34 = .ok (.ifCond .le 20, 3) := by decide +kernel
theorem dX9_band_37 : decode cX9_band 37 = .ok (.iload_n 1, 1) := by decide +kernel
theorem dX9_band_38 : decode cX9_band 38 = .ok (.aload_n 0, 1) := by decide +kernel
theorem dX9_band_39 : decode cX9_band 39 = .ok (.getfield 43, 3) := by decide +kernel
theorem dX9_band_42 : decode cX9_band 42 = .ok (.aload_n 0, 1) := by decide +kernel
theorem dX9_band_43 : decode cX9_band 43 = .ok (.getfield 161, 3) := by decide +kernel
theorem dX9_band_46 : decode cX9_band 46 = .ok (.iconst 1, 1) := by decide +kernel
theorem dX9_band_47 : decode cX9_band 47 = .ok (.isub, 1) := by decide +kernel
theorem dX9_band_48 : decode cX9_band 48 = .ok (.iaload, 1) := by decide +kernel
theorem dX9_band_49 : decode cX9_band 49 = .ok (.if_icmp .gt 5, 3) := by decide +kernel
theorem dX9_band_52 : decode cX9_band 52 = .ok (.iconst 0, 1) := by decide +kernel
theorem dX9_band_53 : decode cX9_band 53 = .ok (.ireturn, 1) := by decide +kernel
theorem dX9_band_54 : decode cX9_band 54 = .ok (.aload_n 0, 1) := by decide +kernel
theorem dX9_band_55 : decode cX9_band 55 = .ok (.getfield 43, 3) := by decide +kernel
theorem dX9_band_58 : decode cX9_band 58 = .ok (.aload_n 0, 1) := by decide +kernel
theorem dX9_band_59 : decode cX9_band 59 = .ok (.getfield 161, 3) := by decide +kernel
theorem dX9_band_62 : decode cX9_band 62 = .ok (.iload_n 1, 1) := by decide +kernel
theorem dX9_band_63 : decode cX9_band 63 = .ok (.iastore, 1) := by decide +kernel
theorem dX9_band_64 : decode cX9_band 64 = .ok (.aload_n 0, 1) := by decide +kernel
theorem dX9_band_65 : decode cX9_band 65 = .ok (.getfield 46, 3) := by decide +kernel
theorem dX9_band_68 : decode cX9_band 68 = .ok (.aload_n 0, 1) := by decide +kernel
theorem dX9_band_69 : decode cX9_band 69 = .ok (.getfield 161, 3) := by decide +kernel
theorem dX9_band_72 : decode cX9_band 72 = .ok (.iload_n 2, 1) := by decide +kernel
theorem dX9_band_73 : decode cX9_band 73 = .ok (.iastore, 1) := by decide +kernel
theorem dX9_band_74 : decode cX9_band 74 = .ok (.aload_n 0, 1) := by decide +kernel
theorem dX9_band_75 : decode cX9_band 75 = .ok (.dup, 1) := by decide +kernel
theorem dX9_band_76 : decode cX9_band 76 = .ok (.getfield 161, 3) := by decide +kernel
theorem dX9_band_79 : decode cX9_band 79 = .ok (.iconst 1, 1) := by decide +kernel
theorem dX9_band_80 : decode cX9_band 80 = .ok (.iadd, 1) := by decide +kernel
theorem dX9_band_81 : decode cX9_band 81 = .ok (.putfield 161, 3) := by decide +kernel
theorem dX9_band_84 : decode cX9_band 84 = .ok (.iconst 1, 1) := by decide +kernel
theorem dX9_band_85 : decode cX9_band 85 = .ok (.ireturn, 1) := by decide +kernel
set_option maxHeartbeats 4000000 in
set_option maxRecDepth 100000 in
theorem bX9_band_54 {p : Program} {l : Launch} {e : Env} {R : Room} {s : State} {m : MethodId} {args : Array Value} {below : List Frame} {meth : Method} {c : Code} {base : Nat} {D : va_G} {dA : Nat → ClassId} {σ0 : PH} {z : Int32 × PH} {F : Nat} (E : x_E p s m args c cX9_band 3 "WireMoneyModel" D dA) (hr : meth.sig.returnType = (some .boolean)) (hk : meth.locks = false) (hfr : R.frames = 1) (hlo : R.locals = 22) : ∀ (y0 : Option Nat) (y1 : Int32) (y2 : Int32) (σ : PH) (H : Heap) (locs : List Loc) (ls : Array Slot), x_S base D dA R s σ0 z.2 σ H locs → x_rn (mX9_band_54 F y0 y1 y2) σ = some z → x_lv ls 3 [(0, .inr (.inl y0)), (1, .inl y1), (2, .inl y2)] → W p l e R s m args below meth c H locs (x_N σ - x_N σ0) (x_U σ - x_U σ0) (x_end below args s base D dA (fun x => some (.int x)) σ0 z) (F0 m 54 ls []) := by
  intro y0 y1 y2 σ H locs ls S hM hl
  unfold mX9_band_54 at hM
  refine w_aload_n E hl 0 dX9_band_54 rfl ?_
  refine w_rR E S hM lk_9_43 rfl dX9_band_55 (fun v55 hM => ?_)
  refine w_aload_n E hl 0 dX9_band_58 rfl ?_
  refine w_rI E S hM lk_9_161 rfl dX9_band_59 (fun v59 hM => ?_)
  refine w_iload_n E hl 1 dX9_band_62 rfl ?_
  refine w_sI E S hM dX9_band_63 (fun σ H locs S hM => ?_)
  refine w_aload_n E hl 0 dX9_band_64 rfl ?_
  refine w_rR E S hM lk_9_46 rfl dX9_band_65 (fun v65 hM => ?_)
  refine w_aload_n E hl 0 dX9_band_68 rfl ?_
  refine w_rI E S hM lk_9_161 rfl dX9_band_69 (fun v69 hM => ?_)
  refine w_iload_n E hl 2 dX9_band_72 rfl ?_
  refine w_sI E S hM dX9_band_73 (fun σ H locs S hM => ?_)
  refine w_aload_n E hl 0 dX9_band_74 rfl ?_
  refine lv_dup E.1 E.2.1 dX9_band_75 (x_cat _) ?_
  refine w_rI E S hM lk_9_161 rfl dX9_band_76 (fun v76 hM => ?_)
  refine lv_iconst (v := (1 : Int32)) E.1 E.2.1 dX9_band_79 (by decide) ?_
  refine lv_iadd E.1 E.2.1 dX9_band_80 ?_
  refine w_wI E S hM lk_9_161 rfl (Or.inl rfl) dX9_band_81 (fun σ H locs S hM => ?_)
  refine lv_iconst (v := (1 : Int32)) E.1 E.2.1 dX9_band_84 (by decide) ?_
  exact w_zretc E S hM (by decide) hr hk dX9_band_85
theorem mcX9_band : x_mc yX9_band cX9_band 3 (some .boolean) 2 := ⟨wd_784, wd_4, by decide +kernel⟩
set_option maxHeartbeats 4000000 in
set_option maxRecDepth 100000 in
theorem kX9_band (l : Launch) (base : Nat) (D : va_G) (dA : Nat → ClassId) (F : Nat) (r0 : Option Nat) (x1 : Int32) (x2 : Int32) : x_Met l base D dA yX9_band cX9_band 3 (some .boolean) 1 22 [va_rf r0, .int x1, .int x2] (mX9_band F r0 x1 x2) (fun x => some (.int x)) := by
  refine x_Met.of [(0, .inr (.inl r0)), (1, .inl x1), (2, .inl x2)] (by decide) (Nat.le_of_ble_eq_true rfl) rfl rfl ?_
  intro p e R s m args below meth c σ a τ ls hfr hlo E hr hk hn S hM hl
  have E : x_E p s m args c cX9_band 3 "WireMoneyModel" D dA := E
  unfold mX9_band at hM
  refine w_iload_n E hl 1 dX9_band_0 rfl ?_
  refine lv_iconst (v := (1 : Int32)) E.1 E.2.1 dX9_band_1 (by decide) ?_
  refine w_ldc (v := (99999 : Int32)) E wd_785 dX9_band_2 ?_
  refine w_cSi (rest := []) E S hl hM (kX9_in l base D dA F x1 (1 : Int32) (99999 : Int32)) mcX9_in ⟨wd_762, wd_763⟩ hfr hlo (by decide) rfl (Nat.le_of_ble_eq_true rfl) dX9_band_4 rfl (fun v4 σ H locs S hM => ?_)
  refine lv_if_eq (tgt := 52) E.1 E.2.1 dX9_band_7 (by decide) (fun c7 => ?_) (fun c7 => ?_)
  · replace hM := x_okT hM c7
    refine lv_iconst (v := (0 : Int32)) E.1 E.2.1 dX9_band_52 (by decide) ?_
    exact w_zretc E S hM (by decide) hr hk dX9_band_53
  · replace hM := x_okF hM c7
    refine w_iload_n E hl 2 dX9_band_10 rfl ?_
    refine lv_iconst (v := (0 : Int32)) E.1 E.2.1 dX9_band_11 (by decide) ?_
    refine lv_sipush (v := (1000 : Int32)) E.1 E.2.1 dX9_band_12 (by decide) ?_
    refine w_cSi (rest := []) E S hl hM (kX9_in l base D dA F x2 (0 : Int32) (1000 : Int32)) mcX9_in ⟨wd_762, wd_763⟩ hfr hlo (by decide) rfl (Nat.le_of_ble_eq_true rfl) dX9_band_15 rfl (fun v15 σ H locs S hM => ?_)
    refine lv_if_eq (tgt := 52) E.1 E.2.1 dX9_band_18 (by decide) (fun c18 => ?_) (fun c18 => ?_)
    · replace hM := x_okT hM c18
      refine lv_iconst (v := (0 : Int32)) E.1 E.2.1 dX9_band_52 (by decide) ?_
      exact w_zretc E S hM (by decide) hr hk dX9_band_53
    · replace hM := x_okF hM c18
      refine w_aload_n E hl 0 dX9_band_21 rfl ?_
      refine w_rI E S hM lk_9_161 rfl dX9_band_22 (fun v22 hM => ?_)
      refine lv_bipush (v := (8 : Int32)) E.1 E.2.1 dX9_band_25 (by decide) ?_
      refine lv_icmp_eq (tgt := 52) E.1 E.2.1 dX9_band_27 (by decide) (fun c27 => ?_) (fun c27 => ?_)
      · replace hM := x_okT hM c27
        refine lv_iconst (v := (0 : Int32)) E.1 E.2.1 dX9_band_52 (by decide) ?_
        exact w_zretc E S hM (by decide) hr hk dX9_band_53
      · replace hM := x_okF hM c27
        refine w_aload_n E hl 0 dX9_band_30 rfl ?_
        refine w_rI E S hM lk_9_161 rfl dX9_band_31 (fun v31 hM => ?_)
        refine lv_if_le (tgt := 54) E.1 E.2.1 dX9_band_34 (by decide) (fun c34 => ?_) (fun c34 => ?_)
        · replace hM := x_okT hM c34
          exact bX9_band_54 E hr hk hfr hlo r0 x1 x2 _ _ _ _ S hM (x_lv_sub hl [0, 1, 2] rfl)
        · replace hM := x_okF hM c34
          refine w_iload_n E hl 1 dX9_band_37 rfl ?_
          refine w_aload_n E hl 0 dX9_band_38 rfl ?_
          refine w_rR E S hM lk_9_43 rfl dX9_band_39 (fun v39 hM => ?_)
          refine w_aload_n E hl 0 dX9_band_42 rfl ?_
          refine w_rI E S hM lk_9_161 rfl dX9_band_43 (fun v43 hM => ?_)
          refine lv_iconst (v := (1 : Int32)) E.1 E.2.1 dX9_band_46 (by decide) ?_
          refine lv_isub E.1 E.2.1 dX9_band_47 ?_
          refine w_aI E S hM dX9_band_48 (fun v48 hM => ?_)
          refine lv_icmp_gt (tgt := 54) E.1 E.2.1 dX9_band_49 (by decide) (fun c49 => ?_) (fun c49 => ?_)
          · replace hM := x_okT hM c49
            exact bX9_band_54 E hr hk hfr hlo r0 x1 x2 _ _ _ _ S hM (x_lv_sub hl [0, 1, 2] rfl)
          · replace hM := x_okF hM c49
            refine lv_iconst (v := (0 : Int32)) E.1 E.2.1 dX9_band_52 (by decide) ?_
            exact w_zretc E S hM (by decide) hr hk dX9_band_53
theorem dX9_fee_0 : decode cX9_fee 0 = .ok (.iload_n 1, 1) := by decide +kernel
theorem dX9_fee_1 : decode cX9_fee 1 = .ok (.iconst 1, 1) := by decide +kernel
theorem dX9_fee_2 : decode cX9_fee 2 = .ok (.ldc 160, 2) := by decide +kernel
theorem dX9_fee_4 : decode cX9_fee 4 = .ok (.invokestatic 138, 3) := by decide +kernel
theorem dX9_fee_7 : decode cX9_fee 7 = .ok (.ifCond .ne 5, 3) := by decide +kernel
theorem dX9_fee_10 : decode cX9_fee 10 = .ok (.iconst (-1), 1) := by decide +kernel
theorem dX9_fee_11 : decode cX9_fee 11 = .ok (.ireturn, 1) := by decide +kernel
theorem dX9_fee_12 : decode cX9_fee 12 = .ok (.iconst 0, 1) := by decide +kernel
theorem dX9_fee_13 : decode cX9_fee 13 = .ok (.istore_n 2, 1) := by decide +kernel
theorem dX9_fee_14 : decode cX9_fee 14 = .ok (.iload_n 2, 1) := by decide +kernel
theorem dX9_fee_15 : decode cX9_fee 15 = .ok (.aload_n 0, 1) := by decide +kernel
theorem dX9_fee_16 : decode cX9_fee 16 = .ok (.getfield 161, 3) := by decide +kernel
theorem dX9_fee_19 : decode cX9_fee 19 = .ok (.if_icmp .ge 26, 3) := by decide +kernel
theorem dX9_fee_22 : decode cX9_fee 22 = .ok (.iload_n 1, 1) := by decide +kernel
theorem dX9_fee_23 : decode cX9_fee 23 = .ok (.aload_n 0, 1) := by decide +kernel
theorem dX9_fee_24 : decode cX9_fee 24 = .ok (.getfield 43, 3) := by decide +kernel
theorem dX9_fee_27 : decode cX9_fee 27 = .ok (.iload_n 2, 1) := by decide +kernel
theorem dX9_fee_28 : decode cX9_fee 28 = .ok (.iaload, 1) := by decide +kernel
theorem dX9_fee_29 : decode cX9_fee 29 = .ok (.if_icmp .gt 10, 3) := by decide +kernel
theorem dX9_fee_32 : decode cX9_fee 32 = .ok (.aload_n 0, 1) := by decide +kernel
theorem dX9_fee_33 : decode cX9_fee 33 = .ok (.getfield 46, 3) := by decide +kernel
theorem dX9_fee_36 : decode cX9_fee 36 = .ok (.iload_n 2, 1) := by decide +kernel
theorem dX9_fee_37 : decode cX9_fee 37 = .ok (.iaload, 1) := by decide +kernel
theorem dX9_fee_38 : decode cX9_fee 38 = .ok (.ireturn, 1) := by decide +kernel
theorem dX9_fee_39 : decode cX9_fee 39 = .ok (.iinc 2 1, 3) := by decide +kernel
theorem dX9_fee_42 : decode cX9_fee 42 = .ok (.goto (-28), 3) := by decide +kernel
theorem dX9_fee_45 : decode cX9_fee 45 = .ok (.iload_n 1, 1) := by decide +kernel
theorem dX9_fee_46 : decode cX9_fee 46 = .ok (.bipush 100, 2) := by decide +kernel
theorem dX9_fee_48 : decode cX9_fee 48 = .ok (.if_icmp .ge 7, 3) := by decide +kernel
theorem dX9_fee_51 : decode cX9_fee 51 = .ok (.iconst 1, 1) := by decide +kernel
theorem dX9_fee_52 : decode cX9_fee 52 = .ok (.goto 7, 3) := by decide +kernel
theorem dX9_fee_55 : decode cX9_fee 55 = .ok (.iload_n 1, 1) := by decide +kernel
theorem dX9_fee_56 : decode cX9_fee 56 = .ok (.bipush 100, 2) := by decide +kernel
theorem dX9_fee_58 : decode cX9_fee 58 = .ok (.idiv, 1) := by decide +kernel
theorem dX9_fee_59 : decode cX9_fee 59 = .ok (.ireturn, 1) := by decide +kernel
set_option maxHeartbeats 4000000 in
set_option maxRecDepth 100000 in
theorem bX9_fee_14 {p : Program} {l : Launch} {e : Env} {R : Room} {s : State} {m : MethodId} {args : Array Value} {below : List Frame} {meth : Method} {c : Code} {base : Nat} {D : va_G} {dA : Nat → ClassId} {σ0 : PH} {z : Int32 × PH} {F : Nat} (E : x_E p s m args c cX9_fee 3 "WireMoneyModel" D dA) (hr : meth.sig.returnType = (some .int)) (hk : meth.locks = false) (hfr : R.frames = 1) (hlo : R.locals = 22) : ∀ (n : Nat) (y0 : Option Nat) (y1 : Int32) (y2 : Int32) (σ : PH) (H : Heap) (locs : List Loc) (ls : Array Slot), x_S base D dA R s σ0 z.2 σ H locs → x_rn (mX9_fee_14 F n y0 y1 y2) σ = some z → x_lv ls 3 [(0, .inr (.inl y0)), (1, .inl y1), (2, .inl y2)] → W p l e R s m args below meth c H locs (x_N σ - x_N σ0) (x_U σ - x_U σ0) (x_end below args s base D dA (fun x => some (.int x)) σ0 z) (F0 m 14 ls []) := by
  intro n
  induction n with
  | zero =>
    intro y0 y1 y2 σ H locs ls S hM hl
    cases hM
  | succ n ih =>
    intro y0 y1 y2 σ H locs ls S hM hl
    rw [mX9_fee_14] at hM
    refine w_iload_n E hl 2 dX9_fee_14 rfl ?_
    refine w_aload_n E hl 0 dX9_fee_15 rfl ?_
    refine w_rI E S hM lk_9_161 rfl dX9_fee_16 (fun v16 hM => ?_)
    refine lv_icmp_ge (tgt := 45) E.1 E.2.1 dX9_fee_19 (by decide) (fun c19 => ?_) (fun c19 => ?_)
    · replace hM := x_okT hM c19
      refine w_iload_n E hl 1 dX9_fee_45 rfl ?_
      refine lv_bipush (v := (100 : Int32)) E.1 E.2.1 dX9_fee_46 (by decide) ?_
      refine lv_icmp_ge (tgt := 55) E.1 E.2.1 dX9_fee_48 (by decide) (fun c48 => ?_) (fun c48 => ?_)
      · replace hM := x_okT hM c48
        refine w_iload_n E hl 1 dX9_fee_55 rfl ?_
        refine lv_bipush (v := (100 : Int32)) E.1 E.2.1 dX9_fee_56 (by decide) ?_
        refine lv_idiv E.1 E.2.1 dX9_fee_58 (by decide) ?_
        exact w_iret E S hM hr hk dX9_fee_59
      · replace hM := x_okF hM c48
        refine lv_iconst (v := (1 : Int32)) E.1 E.2.1 dX9_fee_51 (by decide) ?_
        refine lv_goto (tgt := 59) E.1 E.2.1 dX9_fee_52 (by decide) ?_
        exact w_iret E S hM hr hk dX9_fee_59
    · replace hM := x_okF hM c19
      refine w_iload_n E hl 1 dX9_fee_22 rfl ?_
      refine w_aload_n E hl 0 dX9_fee_23 rfl ?_
      refine w_rR E S hM lk_9_43 rfl dX9_fee_24 (fun v24 hM => ?_)
      refine w_iload_n E hl 2 dX9_fee_27 rfl ?_
      refine w_aI E S hM dX9_fee_28 (fun v28 hM => ?_)
      refine lv_icmp_gt (tgt := 39) E.1 E.2.1 dX9_fee_29 (by decide) (fun c29 => ?_) (fun c29 => ?_)
      · replace hM := x_okT hM c29
        refine w_iincN (ltf := fun v39 => [(2, .inl v39), (0, .inr (.inl y0)), (1, .inl y1)]) E hl 2 hM dX9_fee_39 rfl (by decide) (by decide) (fun _ => rfl) (fun v39 ls hM hl => ?_)
        refine lv_goto (tgt := 14) E.1 E.2.1 dX9_fee_42 (by decide) ?_
        exact ih y0 y1 v39 _ _ _ _ S hM (x_lv_sub hl [1, 2, 0] rfl)
      · replace hM := x_okF hM c29
        refine w_aload_n E hl 0 dX9_fee_32 rfl ?_
        refine w_rR E S hM lk_9_46 rfl dX9_fee_33 (fun v33 hM => ?_)
        refine w_iload_n E hl 2 dX9_fee_36 rfl ?_
        refine w_aI E S hM dX9_fee_37 (fun v37 hM => ?_)
        exact w_iret E S hM hr hk dX9_fee_38
theorem mcX9_fee : x_mc yX9_fee cX9_fee 3 (some .int) 1 := ⟨wd_789, wd_4, by decide +kernel⟩
set_option maxHeartbeats 4000000 in
set_option maxRecDepth 100000 in
theorem kX9_fee (l : Launch) (base : Nat) (D : va_G) (dA : Nat → ClassId) (F : Nat) (r0 : Option Nat) (x1 : Int32) : x_Met l base D dA yX9_fee cX9_fee 3 (some .int) 1 22 [va_rf r0, .int x1] (mX9_fee F r0 x1) (fun x => some (.int x)) := by
  refine x_Met.of [(0, .inr (.inl r0)), (1, .inl x1)] (by decide) (Nat.le_of_ble_eq_true rfl) rfl rfl ?_
  intro p e R s m args below meth c σ a τ ls hfr hlo E hr hk hn S hM hl
  have E : x_E p s m args c cX9_fee 3 "WireMoneyModel" D dA := E
  unfold mX9_fee at hM
  refine w_iload_n E hl 1 dX9_fee_0 rfl ?_
  refine lv_iconst (v := (1 : Int32)) E.1 E.2.1 dX9_fee_1 (by decide) ?_
  refine w_ldc (v := (99999 : Int32)) E wd_785 dX9_fee_2 ?_
  refine w_cSi (rest := []) E S hl hM (kX9_in l base D dA F x1 (1 : Int32) (99999 : Int32)) mcX9_in ⟨wd_762, wd_763⟩ hfr hlo (by decide) rfl (Nat.le_of_ble_eq_true rfl) dX9_fee_4 rfl (fun v4 σ H locs S hM => ?_)
  refine lv_if_ne (tgt := 12) E.1 E.2.1 dX9_fee_7 (by decide) (fun c7 => ?_) (fun c7 => ?_)
  · replace hM := x_okF hM c7
    refine lv_iconst (v := (0 : Int32)) E.1 E.2.1 dX9_fee_12 (by decide) ?_
    refine w_istore_n (lt' := [(2, .inl (0 : Int32)), (0, .inr (.inl r0)), (1, .inl x1)]) E hl dX9_fee_13 (by decide) rfl (fun ls hl => ?_)
    exact bX9_fee_14 E hr hk hfr hlo F r0 x1 (0 : Int32) _ _ _ _ S hM (x_lv_sub hl [1, 2, 0] rfl)
  · replace hM := x_okT hM c7
    refine lv_iconst (v := (-1 : Int32)) E.1 E.2.1 dX9_fee_10 (by decide) ?_
    exact w_iret E S hM hr hk dX9_fee_11
theorem dX9_weight_0 : decode cX9_weight 0 = .ok (.iconst 1, 1) := by decide +kernel
theorem dX9_weight_1 : decode cX9_weight 1 = .ok (.bipush 7, 2) := by decide +kernel
theorem dX9_weight_3 : decode cX9_weight 3 = .ok (.iload_n 1, 1) := by decide +kernel
theorem dX9_weight_4 : decode cX9_weight 4 = .ok (.imul, 1) := by decide +kernel
theorem dX9_weight_5 : decode cX9_weight 5 = .ok (.bipush 13, 2) := by decide +kernel
theorem dX9_weight_7 : decode cX9_weight 7 = .ok (.iload_n 0, 1) := by decide +kernel
theorem dX9_weight_8 : decode cX9_weight 8 = .ok (.imul, 1) := by decide +kernel
theorem dX9_weight_9 : decode cX9_weight 9 = .ok (.iadd, 1) := by decide +kernel
theorem dX9_weight_10 : decode cX9_weight 10 = .ok (.bipush 96, 2) := by decide +kernel
theorem dX9_weight_12 : decode cX9_weight 12 = .ok (.irem, 1) := by decide +kernel
theorem dX9_weight_13 : decode cX9_weight 13 = .ok (.iadd, 1) := by decide +kernel
theorem dX9_weight_14 : decode cX9_weight 14 = .ok (.ireturn, 1) := by decide +kernel
theorem mcX9_weight : x_mc yX9_weight cX9_weight 2 (some .int) 2 := ⟨wd_813, wd_4, by decide +kernel⟩
set_option maxHeartbeats 4000000 in
set_option maxRecDepth 100000 in
theorem kX9_weight (l : Launch) (base : Nat) (D : va_G) (dA : Nat → ClassId) (F : Nat) (x0 : Int32) (x1 : Int32) : x_Met l base D dA yX9_weight cX9_weight 2 (some .int) 0 0 [.int x0, .int x1] (mX9_weight F x0 x1) (fun x => some (.int x)) := by
  refine x_Met.of [(0, .inl x0), (1, .inl x1)] (by decide) (Nat.le_of_ble_eq_true rfl) rfl rfl ?_
  intro p e R s m args below meth c σ a τ ls hfr hlo E hr hk hn S hM hl
  have E : x_E p s m args c cX9_weight 2 "WireMoneyModel" D dA := E
  unfold mX9_weight at hM
  refine lv_iconst (v := (1 : Int32)) E.1 E.2.1 dX9_weight_0 (by decide) ?_
  refine lv_bipush (v := (7 : Int32)) E.1 E.2.1 dX9_weight_1 (by decide) ?_
  refine w_iload_n E hl 1 dX9_weight_3 rfl ?_
  refine lv_imul E.1 E.2.1 dX9_weight_4 ?_
  refine lv_bipush (v := (13 : Int32)) E.1 E.2.1 dX9_weight_5 (by decide) ?_
  refine w_iload_n E hl 0 dX9_weight_7 rfl ?_
  refine lv_imul E.1 E.2.1 dX9_weight_8 ?_
  refine lv_iadd E.1 E.2.1 dX9_weight_9 ?_
  refine lv_bipush (v := (96 : Int32)) E.1 E.2.1 dX9_weight_10 (by decide) ?_
  refine w_irem E dX9_weight_12 (by decide) ?_
  refine lv_iadd E.1 E.2.1 dX9_weight_13 ?_
  exact w_iret E S hM hr hk dX9_weight_14
theorem dX9_testOf_0 : decode cX9_testOf 0 = .ok (.iconst 0, 1) := by decide +kernel
theorem dX9_testOf_1 : decode cX9_testOf 1 = .ok (.istore_n 2, 1) := by decide +kernel
theorem dX9_testOf_2 : decode cX9_testOf 2 = .ok (.iconst 0, 1) := by decide +kernel
theorem dX9_testOf_3 : decode cX9_testOf 3 = .ok (.istore_n 3, 1) := by decide +kernel
theorem dX9_testOf_4 : decode cX9_testOf 4 = .ok (.iload_n 3, 1) := by decide +kernel
theorem dX9_testOf_5 : decode cX9_testOf 5 = .ok (.bipush 13, 2) := by decide +kernel
theorem dX9_testOf_7 : decode cX9_testOf 7 = .ok (.if_icmp .ge 34, 3) := by decide +kernel
theorem dX9_testOf_10 : decode cX9_testOf 10 = .ok (.iload_n 2, 1) := by decide +kernel
theorem dX9_testOf_11 : decode cX9_testOf 11 = .ok (.aload_n 0, 1) := by decide +kernel
theorem dX9_testOf_12 : decode cX9_testOf 12 = .ok (.getfield 128, 3) := by decide +kernel
theorem dX9_testOf_15 : decode cX9_testOf 15 = .ok (.bipush 13, 2) := by decide +kernel
theorem dX9_testOf_17 : decode cX9_testOf 17 = .ok (.iload_n 1, 1) := by decide +kernel
theorem dX9_testOf_18 : decode cX9_testOf 18 = .ok (.imul, 1) := by decide +kernel
theorem dX9_testOf_19 : decode cX9_testOf 19 = .ok (.iload_n 3, 1) := by decide +kernel
theorem dX9_testOf_20 : decode cX9_testOf 20 = .ok (.iadd, 1) := by decide +kernel
theorem dX9_testOf_21 : decode cX9_testOf 21 = .ok (.iaload, 1) := by decide +kernel
theorem dX9_testOf_22 : decode cX9_testOf 22 = .ok (.iload_n 3, 1) := by decide +kernel
theorem dX9_testOf_23 : decode cX9_testOf 23 = .ok (.aload_n 0, 1) := by decide +kernel
theorem dX9_testOf_24 : decode cX9_testOf 24 = .ok (.getfield 125, 3) := by decide +kernel
theorem dX9_testOf_27 : decode cX9_testOf 27 = .ok (.iload_n 1, 1) := by decide +kernel
theorem dX9_testOf_28 : decode cX9_testOf 28 = .ok (.iaload, 1) := by decide +kernel
theorem dX9_testOf_29 : decode cX9_testOf 29 = .ok (.invokestatic 164, 3) := by decide +kernel
theorem dX9_testOf_32 : decode cX9_testOf 32 = .ok (.imul, 1) := by decide +kernel
theorem dX9_testOf_33 : decode cX9_testOf 33 = .ok (.iadd, 1) := by decide +kernel
theorem dX9_testOf_34 : decode cX9_testOf 34 = .ok (.istore_n 2, 1) := by decide +kernel
theorem dX9_testOf_35 : decode cX9_testOf 35 = .ok (.iinc 3 1, 3) := by decide +kernel
theorem dX9_testOf_38 : decode cX9_testOf 38 = .ok (.goto (-34), 3) := by decide +kernel
theorem dX9_testOf_41 : decode cX9_testOf 41 = .ok (.iload_n 2, 1) := by decide +kernel
theorem dX9_testOf_42 : decode cX9_testOf 42 = .ok (.bipush 97, 2) := by decide +kernel
theorem dX9_testOf_44 : decode cX9_testOf 44 = .ok (.irem, 1) := by decide +kernel
theorem dX9_testOf_45 : decode cX9_testOf 45 = .ok (.ireturn, 1) := by decide +kernel
set_option maxHeartbeats 4000000 in
set_option maxRecDepth 100000 in
theorem bX9_testOf_4 {p : Program} {l : Launch} {e : Env} {R : Room} {s : State} {m : MethodId} {args : Array Value} {below : List Frame} {meth : Method} {c : Code} {base : Nat} {D : va_G} {dA : Nat → ClassId} {σ0 : PH} {z : Int32 × PH} {F : Nat} (E : x_E p s m args c cX9_testOf 4 "WireMoneyModel" D dA) (hr : meth.sig.returnType = (some .int)) (hk : meth.locks = false) (hfr : R.frames = 1) (hlo : R.locals = 21) : ∀ (n : Nat) (y0 : Option Nat) (y1 : Int32) (y2 : Int32) (y3 : Int32) (σ : PH) (H : Heap) (locs : List Loc) (ls : Array Slot), x_S base D dA R s σ0 z.2 σ H locs → x_rn (mX9_testOf_4 F n y0 y1 y2 y3) σ = some z → x_lv ls 4 [(0, .inr (.inl y0)), (1, .inl y1), (2, .inl y2), (3, .inl y3)] → W p l e R s m args below meth c H locs (x_N σ - x_N σ0) (x_U σ - x_U σ0) (x_end below args s base D dA (fun x => some (.int x)) σ0 z) (F0 m 4 ls []) := by
  intro n
  induction n with
  | zero =>
    intro y0 y1 y2 y3 σ H locs ls S hM hl
    cases hM
  | succ n ih =>
    intro y0 y1 y2 y3 σ H locs ls S hM hl
    rw [mX9_testOf_4] at hM
    refine w_iload_n E hl 3 dX9_testOf_4 rfl ?_
    refine lv_bipush (v := (13 : Int32)) E.1 E.2.1 dX9_testOf_5 (by decide) ?_
    refine lv_icmp_ge (tgt := 41) E.1 E.2.1 dX9_testOf_7 (by decide) (fun c7 => ?_) (fun c7 => ?_)
    · replace hM := x_okT hM c7
      refine w_iload_n E hl 2 dX9_testOf_41 rfl ?_
      refine lv_bipush (v := (97 : Int32)) E.1 E.2.1 dX9_testOf_42 (by decide) ?_
      refine w_irem E dX9_testOf_44 (by decide) ?_
      exact w_iret E S hM hr hk dX9_testOf_45
    · replace hM := x_okF hM c7
      refine w_iload_n E hl 2 dX9_testOf_10 rfl ?_
      refine w_aload_n E hl 0 dX9_testOf_11 rfl ?_
      refine w_rR E S hM lk_9_128 rfl dX9_testOf_12 (fun v12 hM => ?_)
      refine lv_bipush (v := (13 : Int32)) E.1 E.2.1 dX9_testOf_15 (by decide) ?_
      refine w_iload_n E hl 1 dX9_testOf_17 rfl ?_
      refine lv_imul E.1 E.2.1 dX9_testOf_18 ?_
      refine w_iload_n E hl 3 dX9_testOf_19 rfl ?_
      refine lv_iadd E.1 E.2.1 dX9_testOf_20 ?_
      refine w_aI E S hM dX9_testOf_21 (fun v21 hM => ?_)
      refine w_iload_n E hl 3 dX9_testOf_22 rfl ?_
      refine w_aload_n E hl 0 dX9_testOf_23 rfl ?_
      refine w_rR E S hM lk_9_125 rfl dX9_testOf_24 (fun v24 hM => ?_)
      refine w_iload_n E hl 1 dX9_testOf_27 rfl ?_
      refine w_aI E S hM dX9_testOf_28 (fun v28 hM => ?_)
      refine w_cSi (rest := [.int v21, .int y2]) E S hl hM (kX9_weight l base D dA F y3 v28) mcX9_weight ⟨wd_811, wd_812⟩ hfr hlo (by decide) rfl (Nat.le_of_ble_eq_true rfl) dX9_testOf_29 rfl (fun v29 σ H locs S hM => ?_)
      refine lv_imul E.1 E.2.1 dX9_testOf_32 ?_
      refine lv_iadd E.1 E.2.1 dX9_testOf_33 ?_
      refine w_nm hM (fun v34 hM => ?_)
      refine w_istore_n (lt' := [(2, .inl v34), (0, .inr (.inl y0)), (1, .inl y1), (3, .inl y3)]) E hl dX9_testOf_34 (by decide) rfl (fun ls hl => ?_)
      refine w_iincN (ltf := fun v35 => [(3, .inl v35), (2, .inl v34), (0, .inr (.inl y0)), (1, .inl y1)]) E hl 3 hM dX9_testOf_35 rfl (by decide) (by decide) (fun _ => rfl) (fun v35 ls hM hl => ?_)
      refine lv_goto (tgt := 4) E.1 E.2.1 dX9_testOf_38 (by decide) ?_
      exact ih y0 y1 v34 v35 _ _ _ _ S hM (x_lv_sub hl [2, 3, 1, 0] rfl)
theorem mcX9_testOf : x_mc yX9_testOf cX9_testOf 4 (some .int) 1 := ⟨wd_810, wd_4, by decide +kernel⟩
set_option maxHeartbeats 4000000 in
set_option maxRecDepth 100000 in
theorem kX9_testOf (l : Launch) (base : Nat) (D : va_G) (dA : Nat → ClassId) (F : Nat) (r0 : Option Nat) (x1 : Int32) : x_Met l base D dA yX9_testOf cX9_testOf 4 (some .int) 1 21 [va_rf r0, .int x1] (mX9_testOf F r0 x1) (fun x => some (.int x)) := by
  refine x_Met.of [(0, .inr (.inl r0)), (1, .inl x1)] (by decide) (Nat.le_of_ble_eq_true rfl) rfl rfl ?_
  intro p e R s m args below meth c σ a τ ls hfr hlo E hr hk hn S hM hl
  have E : x_E p s m args c cX9_testOf 4 "WireMoneyModel" D dA := E
  unfold mX9_testOf at hM
  refine lv_iconst (v := (0 : Int32)) E.1 E.2.1 dX9_testOf_0 (by decide) ?_
  refine w_istore_n (lt' := [(2, .inl (0 : Int32)), (0, .inr (.inl r0)), (1, .inl x1)]) E hl dX9_testOf_1 (by decide) rfl (fun ls hl => ?_)
  refine lv_iconst (v := (0 : Int32)) E.1 E.2.1 dX9_testOf_2 (by decide) ?_
  refine w_istore_n (lt' := [(3, .inl (0 : Int32)), (2, .inl (0 : Int32)), (0, .inr (.inl r0)), (1, .inl x1)]) E hl dX9_testOf_3 (by decide) rfl (fun ls hl => ?_)
  exact bX9_testOf_4 E hr hk hfr hlo F r0 x1 (0 : Int32) (0 : Int32) _ _ _ _ S hM (x_lv_sub hl [2, 3, 1, 0] rfl)
theorem dX9_digit_0 : decode cX9_digit 0 = .ok (.iload_n 0, 1) := by decide +kernel
theorem dX9_digit_1 : decode cX9_digit 1 = .ok (.istore_n 2, 1) := by decide +kernel
theorem dX9_digit_2 : decode cX9_digit 2 = .ok (.iconst 0, 1) := by decide +kernel
theorem dX9_digit_3 : decode cX9_digit 3 = .ok (.istore_n 3, 1) := by decide +kernel
theorem dX9_digit_4 : decode cX9_digit 4 = .ok (.iload_n 3, 1) := by decide +kernel
theorem dX9_digit_5 : decode cX9_digit 5 = .ok (.iload_n 1, 1) := by decide +kernel
theorem dX9_digit_6 : decode cX9_digit 6 = .ok (.if_icmp .ge 14, 3) := by decide +kernel
theorem dX9_digit_9 : decode cX9_digit 9 = .ok (.iload_n 2, 1) := by decide +kernel
theorem dX9_digit_10 : decode cX9_digit 10 = .ok (.bipush 10, 2) := by decide +kernel
theorem dX9_digit_12 : decode cX9_digit 12 = .ok (.idiv, 1) := by decide +kernel
theorem dX9_digit_13 : decode cX9_digit 13 = .ok (.istore_n 2, 1) := by decide +kernel
theorem dX9_digit_14 : decode cX9_digit 14 = .ok (.iinc 3 1, 3) := by decide +kernel
theorem dX9_digit_17 : decode cX9_digit 17 = .ok (.goto (-13), 3) := by decide +kernel
theorem dX9_digit_20 : decode cX9_digit 20 = .ok (.iload_n 2, 1) := by decide +kernel
theorem dX9_digit_21 : decode cX9_digit 21 = .ok (.bipush 10, 2) := by decide +kernel
theorem dX9_digit_23 : decode cX9_digit 23 = .ok (.irem, 1) := by decide +kernel
theorem dX9_digit_24 : decode cX9_digit 24 = .ok (.ireturn, 1) := by decide +kernel
set_option maxHeartbeats 4000000 in
set_option maxRecDepth 100000 in
theorem bX9_digit_4 {p : Program} {l : Launch} {e : Env} {R : Room} {s : State} {m : MethodId} {args : Array Value} {below : List Frame} {meth : Method} {c : Code} {base : Nat} {D : va_G} {dA : Nat → ClassId} {σ0 : PH} {z : Int32 × PH} {F : Nat} (E : x_E p s m args c cX9_digit 4 "WireMoneyModel" D dA) (hr : meth.sig.returnType = (some .int)) (hk : meth.locks = false) (hfr : R.frames = 0) (hlo : R.locals = 0) : ∀ (n : Nat) (y1 : Int32) (y2 : Int32) (y3 : Int32) (σ : PH) (H : Heap) (locs : List Loc) (ls : Array Slot), x_S base D dA R s σ0 z.2 σ H locs → x_rn (mX9_digit_4 F n y1 y2 y3) σ = some z → x_lv ls 4 [(1, .inl y1), (2, .inl y2), (3, .inl y3)] → W p l e R s m args below meth c H locs (x_N σ - x_N σ0) (x_U σ - x_U σ0) (x_end below args s base D dA (fun x => some (.int x)) σ0 z) (F0 m 4 ls []) := by
  intro n
  induction n with
  | zero =>
    intro y1 y2 y3 σ H locs ls S hM hl
    cases hM
  | succ n ih =>
    intro y1 y2 y3 σ H locs ls S hM hl
    rw [mX9_digit_4] at hM
    refine w_iload_n E hl 2 dX9_digit_4 rfl ?_
    refine w_iload_n E hl 0 dX9_digit_5 rfl ?_
    refine lv_icmp_ge (tgt := 20) E.1 E.2.1 dX9_digit_6 (by decide) (fun c6 => ?_) (fun c6 => ?_)
    · replace hM := x_okT hM c6
      refine w_iload_n E hl 1 dX9_digit_20 rfl ?_
      refine lv_bipush (v := (10 : Int32)) E.1 E.2.1 dX9_digit_21 (by decide) ?_
      refine w_irem E dX9_digit_23 (by decide) ?_
      exact w_iret E S hM hr hk dX9_digit_24
    · replace hM := x_okF hM c6
      refine w_iload_n E hl 1 dX9_digit_9 rfl ?_
      refine lv_bipush (v := (10 : Int32)) E.1 E.2.1 dX9_digit_10 (by decide) ?_
      refine lv_idiv E.1 E.2.1 dX9_digit_12 (by decide) ?_
      refine w_nm hM (fun v13 hM => ?_)
      refine w_istore_n (lt' := [(2, .inl v13), (1, .inl y1), (3, .inl y3)]) E hl dX9_digit_13 (by decide) rfl (fun ls hl => ?_)
      refine w_iincN (ltf := fun v14 => [(3, .inl v14), (2, .inl v13), (1, .inl y1)]) E hl 2 hM dX9_digit_14 rfl (by decide) (by decide) (fun _ => rfl) (fun v14 ls hM hl => ?_)
      refine lv_goto (tgt := 4) E.1 E.2.1 dX9_digit_17 (by decide) ?_
      exact ih y1 v13 v14 _ _ _ _ S hM (x_lv_sub hl [2, 1, 0] rfl)
theorem mcX9_digit : x_mc yX9_digit cX9_digit 4 (some .int) 2 := ⟨wd_806, wd_4, by decide +kernel⟩
set_option maxHeartbeats 4000000 in
set_option maxRecDepth 100000 in
theorem kX9_digit (l : Launch) (base : Nat) (D : va_G) (dA : Nat → ClassId) (F : Nat) (x0 : Int32) (x1 : Int32) : x_Met l base D dA yX9_digit cX9_digit 4 (some .int) 0 0 [.int x0, .int x1] (mX9_digit F x0 x1) (fun x => some (.int x)) := by
  refine x_Met.of [(0, .inl x0), (1, .inl x1)] (by decide) (Nat.le_of_ble_eq_true rfl) rfl rfl ?_
  intro p e R s m args below meth c σ a τ ls hfr hlo E hr hk hn S hM hl
  have E : x_E p s m args c cX9_digit 4 "WireMoneyModel" D dA := E
  unfold mX9_digit at hM
  refine w_iload_n E hl 0 dX9_digit_0 rfl ?_
  refine w_istore_n (lt' := [(2, .inl x0), (0, .inl x0), (1, .inl x1)]) E hl dX9_digit_1 (by decide) rfl (fun ls hl => ?_)
  refine lv_iconst (v := (0 : Int32)) E.1 E.2.1 dX9_digit_2 (by decide) ?_
  refine w_istore_n (lt' := [(3, .inl (0 : Int32)), (2, .inl x0), (0, .inl x0), (1, .inl x1)]) E hl dX9_digit_3 (by decide) rfl (fun ls hl => ?_)
  exact bX9_digit_4 E hr hk hfr hlo F x1 x0 (0 : Int32) _ _ _ _ S hM (x_lv_sub hl [3, 1, 0] rfl)
theorem dX9_queues_0 : decode cX9_queues 0 = .ok (.aload_n 0, 1) := by decide +kernel
theorem dX9_queues_1 : decode cX9_queues 1 = .ok (.getfield 98, 3) := by decide +kernel
theorem dX9_queues_4 : decode cX9_queues 4 = .ok (.iload_n 1, 1) := by decide +kernel
theorem dX9_queues_5 : decode cX9_queues 5 = .ok (.iconst 0, 1) := by decide +kernel
theorem dX9_queues_6 : decode cX9_queues 6 = .ok (.iastore, 1) := by decide +kernel
theorem dX9_queues_7 : decode cX9_queues 7 = .ok (.aload_n 0, 1) := by decide +kernel
theorem dX9_queues_8 : decode cX9_queues 8 = .ok (.getfield 101, 3) := by decide +kernel
theorem dX9_queues_11 : decode cX9_queues 11 = .ok (.iload_n 1, 1) := by decide +kernel
theorem dX9_queues_12 : decode cX9_queues 12 = .ok (.iload_n 2, 1) := by decide +kernel
theorem dX9_queues_13 : decode cX9_queues 13 = .ok (.iastore, 1) := by decide +kernel
theorem dX9_queues_14 : decode cX9_queues 14 = .ok (.aload_n 0, 1) := by decide +kernel
theorem dX9_queues_15 : decode cX9_queues 15 = .ok (.getfield 104, 3) := by decide +kernel
theorem dX9_queues_18 : decode cX9_queues 18 = .ok (.iload_n 1, 1) := by decide +kernel
theorem dX9_queues_19 : decode cX9_queues 19 = .ok (.aload_n 0, 1) := by decide +kernel
theorem dX9_queues_20 : decode cX9_queues 20 = .ok (.iload_n 2, 1) := by decide +kernel
theorem dX9_queues_21 : decode cX9_queues 21 = .ok (.aload_n 0, 1) := by decide +kernel
theorem dX9_queues_22 : decode cX9_queues 22 = .ok (.getfield 95, 3) := by decide +kernel
theorem dX9_queues_25 : decode cX9_queues 25 = .ok (.iload_n 1, 1) := by decide +kernel
theorem dX9_queues_26 : decode cX9_queues 26 = .ok (.iaload, 1) := by decide +kernel
theorem dX9_queues_27 : decode cX9_queues 27 = .ok (.invokevirtual 167, 3) := by decide +kernel
theorem dX9_queues_30 : decode cX9_queues 30 = .ok (.iastore, 1) := by decide +kernel
theorem dX9_queues_31 : decode cX9_queues 31 = .ok (.aload_n 0, 1) := by decide +kernel
theorem dX9_queues_32 : decode cX9_queues 32 = .ok (.getfield 107, 3) := by decide +kernel
theorem dX9_queues_35 : decode cX9_queues 35 = .ok (.iload_n 1, 1) := by decide +kernel
theorem dX9_queues_36 : decode cX9_queues 36 = .ok (.aload_n 0, 1) := by decide +kernel
theorem dX9_queues_37 : decode cX9_queues 37 = .ok (.getfield 170, 3) := by decide +kernel
theorem dX9_queues_40 : decode cX9_queues 40 = .ok (.iastore, 1) := by decide +kernel
theorem dX9_queues_41 : decode cX9_queues 41 = .ok (.aload_n 0, 1) := by decide +kernel
theorem dX9_queues_42 : decode cX9_queues 42 = .ok (.dup, 1) := by decide +kernel
theorem dX9_queues_43 : decode cX9_queues 43 = .ok (.getfield 170, 3) := by decide +kernel
theorem dX9_queues_46 : decode cX9_queues 46 = .ok (.iconst 1, 1) := by decide +kernel
theorem dX9_queues_47 : decode cX9_queues 47 = .ok (.iadd, 1) := by decide +kernel
theorem dX9_queues_48 : decode cX9_queues 48 = .ok (.putfield 170, 3) := by decide +kernel
theorem dX9_queues_51 : decode cX9_queues 51 = .ok (.return_, 1) := by decide +kernel
theorem mcX9_queues : x_mc yX9_queues cX9_queues 3 none 2 := ⟨wd_817, wd_4, by decide +kernel⟩
set_option maxHeartbeats 4000000 in
set_option maxRecDepth 100000 in
theorem kX9_queues (l : Launch) (base : Nat) (D : va_G) (dA : Nat → ClassId) (F : Nat) (r0 : Option Nat) (x1 : Int32) (x2 : Int32) : x_Met l base D dA yX9_queues cX9_queues 3 none 2 47 [va_rf r0, .int x1, .int x2] (mX9_queues F r0 x1 x2) (fun _ => none) := by
  refine x_Met.of [(0, .inr (.inl r0)), (1, .inl x1), (2, .inl x2)] (by decide) (Nat.le_of_ble_eq_true rfl) rfl rfl ?_
  intro p e R s m args below meth c σ a τ ls hfr hlo E hr hk hn S hM hl
  have E : x_E p s m args c cX9_queues 3 "WireMoneyModel" D dA := E
  unfold mX9_queues at hM
  refine w_aload_n E hl 0 dX9_queues_0 rfl ?_
  refine w_rR E S hM lk_9_98 rfl dX9_queues_1 (fun v1 hM => ?_)
  refine w_iload_n E hl 1 dX9_queues_4 rfl ?_
  refine lv_iconst (v := (0 : Int32)) E.1 E.2.1 dX9_queues_5 (by decide) ?_
  refine w_sI E S hM dX9_queues_6 (fun σ H locs S hM => ?_)
  refine w_aload_n E hl 0 dX9_queues_7 rfl ?_
  refine w_rR E S hM lk_9_101 rfl dX9_queues_8 (fun v8 hM => ?_)
  refine w_iload_n E hl 1 dX9_queues_11 rfl ?_
  refine w_iload_n E hl 2 dX9_queues_12 rfl ?_
  refine w_sI E S hM dX9_queues_13 (fun σ H locs S hM => ?_)
  refine w_aload_n E hl 0 dX9_queues_14 rfl ?_
  refine w_rR E S hM lk_9_104 rfl dX9_queues_15 (fun v15 hM => ?_)
  refine w_iload_n E hl 1 dX9_queues_18 rfl ?_
  refine w_aload_n E hl 0 dX9_queues_19 rfl ?_
  refine w_iload_n E hl 2 dX9_queues_20 rfl ?_
  refine w_aload_n E hl 0 dX9_queues_21 rfl ?_
  refine w_rR E S hM lk_9_95 rfl dX9_queues_22 (fun v22 hM => ?_)
  refine w_iload_n E hl 1 dX9_queues_25 rfl ?_
  refine w_aI E S hM dX9_queues_26 (fun v26 hM => ?_)
  refine w_cVi (rest := [.int x1, va_rf v15]) E S hl hM (kX9_nextWire l base D dA F r0 x2 v26) mcX9_nextWire ⟨by decide, rfl, wd_818, wd_820, wp_27⟩ hfr hlo (by decide) rfl (Nat.le_of_ble_eq_true rfl) dX9_queues_27 rfl (fun v27 σ H locs S hM => ?_)
  refine w_sI E S hM dX9_queues_30 (fun σ H locs S hM => ?_)
  refine w_aload_n E hl 0 dX9_queues_31 rfl ?_
  refine w_rR E S hM lk_9_107 rfl dX9_queues_32 (fun v32 hM => ?_)
  refine w_iload_n E hl 1 dX9_queues_35 rfl ?_
  refine w_aload_n E hl 0 dX9_queues_36 rfl ?_
  refine w_rI E S hM lk_9_170 rfl dX9_queues_37 (fun v37 hM => ?_)
  refine w_sI E S hM dX9_queues_40 (fun σ H locs S hM => ?_)
  refine w_aload_n E hl 0 dX9_queues_41 rfl ?_
  refine lv_dup E.1 E.2.1 dX9_queues_42 (x_cat _) ?_
  refine w_rI E S hM lk_9_170 rfl dX9_queues_43 (fun v43 hM => ?_)
  refine lv_iconst (v := (1 : Int32)) E.1 E.2.1 dX9_queues_46 (by decide) ?_
  refine lv_iadd E.1 E.2.1 dX9_queues_47 ?_
  refine w_wI E S hM lk_9_170 rfl (Or.inl rfl) dX9_queues_48 (fun σ H locs S hM => ?_)
  exact w_vret E S hM hr hk dX9_queues_51
