theorem dX8_takeIn_0 : decode cX8_takeIn 0 = .ok (.aload_n 0, 1) := by decide +kernel
theorem dX8_takeIn_1 : decode cX8_takeIn 1 = .ok (.getfield 60, 3) := by decide +kernel
theorem dX8_takeIn_4 : decode cX8_takeIn 4 = .ok (.aload_n 0, 1) := by decide +kernel
theorem dX8_takeIn_5 : decode cX8_takeIn 5 = .ok (.getfield 36, 3) := by decide +kernel
theorem dX8_takeIn_8 : decode cX8_takeIn 8 = .ok (.if_icmp .ge 4, 3) := by decide +kernel
theorem dX8_takeIn_11 : decode cX8_takeIn 11 = .ok (.return_, 1) := by decide +kernel
theorem dX8_takeIn_12 : decode cX8_takeIn 12 = .ok (.aload_n 0, 1) := by decide +kernel
theorem dX8_takeIn_13 : decode cX8_takeIn 13 = .ok (.ldc 35, 2) := by decide +kernel
theorem dX8_takeIn_15 : decode cX8_takeIn 15 = .ok (.putfield 36, 3) := by decide +kernel
theorem dX8_takeIn_18 : decode cX8_takeIn 18 = .ok (.aload_n 0, 1) := by decide +kernel
theorem dX8_takeIn_19 : decode cX8_takeIn 19 = .ok (.getfield 135, 3) := by decide +kernel
theorem dX8_takeIn_22 : decode cX8_takeIn 22 = .ok (.istore_n 1, 1) := by decide +kernel
theorem dX8_takeIn_23 : decode cX8_takeIn 23 = .ok (.iconst 0, 1) := by decide +kernel
theorem dX8_takeIn_24 : decode cX8_takeIn 24 = .ok (.istore_n 2, 1) := by decide +kernel
theorem dX8_takeIn_25 : decode cX8_takeIn 25 = .ok (.iload_n 2, 1) := by decide +kernel
theorem dX8_takeIn_26 : decode cX8_takeIn 26 = .ok (.iload_n 1, 1) := by decide +kernel
theorem dX8_takeIn_27 : decode cX8_takeIn 27 = .ok (.if_icmp .ge 86, 3) := by decide +kernel
theorem dX8_takeIn_30 : decode cX8_takeIn 30 = .ok (.aload_n 0, 1) := by decide +kernel
theorem dX8_takeIn_31 : decode cX8_takeIn 31 = .ok (.iload_n 2, 1) := by decide +kernel
theorem dX8_takeIn_32 : decode cX8_takeIn 32 = .ok (.invokevirtual 161, 3) := by decide +kernel
theorem dX8_takeIn_35 : decode cX8_takeIn 35 = .ok (.astore_n 3, 1) := by decide +kernel
theorem dX8_takeIn_36 : decode cX8_takeIn 36 = .ok (.aload_n 3, 1) := by decide +kernel
theorem dX8_takeIn_37 : decode cX8_takeIn 37 = .ok (.ifnull 70, 3) := by decide +kernel
theorem dX8_takeIn_40 : decode cX8_takeIn 40 = .ok (.aload_n 3, 1) := by decide +kernel
theorem dX8_takeIn_41 : decode cX8_takeIn 41 = .ok (.getfield 281, 3) := by decide +kernel
theorem dX8_takeIn_44 : decode cX8_takeIn 44 = .ok (.ifnonnull 6, 3) := by decide +kernel
theorem dX8_takeIn_47 : decode cX8_takeIn 47 = .ok (.goto 60, 3) := by decide +kernel
theorem dX8_takeIn_50 : decode cX8_takeIn 50 = .ok (.aload_n 3, 1) := by decide +kernel
theorem dX8_takeIn_51 : decode cX8_takeIn 51 = .ok (.getfield 284, 3) := by decide +kernel
theorem dX8_takeIn_54 : decode cX8_takeIn 54 = .ok (.aload_n 0, 1) := by decide +kernel
theorem dX8_takeIn_55 : decode cX8_takeIn 55 = .ok (.getfield 60, 3) := by decide +kernel
theorem dX8_takeIn_58 : decode cX8_takeIn 58 = .ok (.if_icmp .le 21, 3) := by decide +kernel
theorem dX8_takeIn_61 : decode cX8_takeIn 61 = .ok (.aload_n 0, 1) := by decide +kernel
theorem dX8_takeIn_62 : decode cX8_takeIn 62 = .ok (.aload_n 0, 1) := by decide +kernel
theorem dX8_takeIn_63 : decode cX8_takeIn 63 = .ok (.getfield 36, 3) := by decide +kernel
theorem dX8_takeIn_66 : decode cX8_takeIn 66 = .ok (.aload_n 3, 1) := by decide +kernel
theorem dX8_takeIn_67 : decode cX8_takeIn 67 = .ok (.getfield 284, 3) := by decide +kernel
theorem dX8_takeIn_70 : decode cX8_takeIn 70 = .ok (.invokestatic 177, 3) := by decide +kernel
theorem dX8_takeIn_73 : decode cX8_takeIn 73 = .ok (.putfield 36, 3) := by decide +kernel
theorem dX8_takeIn_76 : decode cX8_takeIn 76 = .ok (.goto 31, 3) := by decide +kernel
theorem dX8_takeIn_79 : decode cX8_takeIn 79 = .ok (.aload_n 3, 1) := by decide +kernel
theorem dX8_takeIn_80 : decode cX8_takeIn 80 = .ok (.invokevirtual 287, 3) := by decide +kernel
theorem dX8_takeIn_83 : decode cX8_takeIn 83 = .ok (.aload_n 3, 1) := by decide +kernel
theorem dX8_takeIn_84 : decode cX8_takeIn 84 = .ok (.getfield 205, 3) := by decide +kernel
theorem dX8_takeIn_87 : decode cX8_takeIn 87 = .ok (.aload_n 3, 1) := by decide +kernel
theorem dX8_takeIn_88 : decode cX8_takeIn 88 = .ok (.getfield 204, 3) := by decide +kernel
theorem dX8_takeIn_91 : decode cX8_takeIn 91 = .ok (.if_acmp .ne 11, 3) := by decide +kernel
theorem dX8_takeIn_94 : decode cX8_takeIn 94 = .ok (.aload_n 0, 1) := by decide +kernel
theorem dX8_takeIn_95 : decode cX8_takeIn 95 = .ok (.aload_n 3, 1) := by decide +kernel
theorem dX8_takeIn_96 : decode cX8_takeIn 96 = .ok (.invokevirtual 290, 3) := by decide +kernel
theorem dX8_takeIn_99 : decode cX8_takeIn 99 = .ok (.goto 8, 3) := by decide +kernel
theorem dX8_takeIn_102 : decode cX8_takeIn 102 = .ok (.aload_n 0, 1) := by decide +kernel
theorem dX8_takeIn_103 : decode cX8_takeIn 103 = .ok (.aload_n 3, 1) := by decide +kernel
theorem dX8_takeIn_104 : decode cX8_takeIn 104 = .ok (.invokevirtual 265, 3) := by decide +kernel
theorem dX8_takeIn_107 : decode cX8_takeIn 107 = .ok (.iinc 2 1, 3) := by decide +kernel
theorem dX8_takeIn_110 : decode cX8_takeIn 110 = .ok (.goto (-85), 3) := by decide +kernel
theorem dX8_takeIn_113 : decode cX8_takeIn 113 = .ok (.return_, 1) := by decide +kernel
set_option maxHeartbeats 4000000 in
set_option maxRecDepth 100000 in
theorem bX8_takeIn_25 {p : Program} {l : Launch} {e : Env} {R : Room} {s : State} {m : MethodId} {args : Array Value} {below : List Frame} {meth : Method} {c : Code} {base : Nat} {D : va_G} {dA : Nat → ClassId} {σ0 : PH} {z : Unit × PH} {F : Nat} (E : x_E p s m args c cX8_takeIn 4 "WireMoney" D dA) (hr : meth.sig.returnType = none) (hk : meth.locks = false) (hfr : R.frames = 5) (hlo : R.locals = 116) : ∀ (n : Nat) (y0 : Option Nat) (y1 : Int32) (y2 : Int32) (σ : PH) (H : Heap) (locs : List Loc) (ls : Array Slot), x_S base D dA R s σ0 z.2 σ H locs → x_rn (mX8_takeIn_25 F n y0 y1 y2) σ = some z → x_lv ls 4 [(0, .inr (.inl y0)), (1, .inl y1), (2, .inl y2)] → W p l e R s m args below meth c H locs (x_N σ - x_N σ0) (x_U σ - x_U σ0) (x_end below args s base D dA (fun _ => none) σ0 z) (F0 m 25 ls []) := by
  intro n
  induction n with
  | zero =>
    intro y0 y1 y2 σ H locs ls S hM hl
    cases hM
  | succ n ih =>
    intro y0 y1 y2 σ H locs ls S hM hl
    rw [mX8_takeIn_25] at hM
    refine w_iload_n E hl 2 dX8_takeIn_25 rfl ?_
    refine w_iload_n E hl 1 dX8_takeIn_26 rfl ?_
    refine lv_icmp_ge (tgt := 113) E.1 E.2.1 dX8_takeIn_27 (by decide) (fun c27 => ?_) (fun c27 => ?_)
    · replace hM := x_okT hM c27
      exact w_vret E S hM hr hk dX8_takeIn_113
    · replace hM := x_okF hM c27
      refine w_aload_n E hl 0 dX8_takeIn_30 rfl ?_
      refine w_iload_n E hl 2 dX8_takeIn_31 rfl ?_
      refine w_cVq (rest := []) E S hl hM (kX8_findMessage l base D dA F y0 y2) mcX8_findMessage ⟨by decide, rfl, wd_479, wd_481, wp_11⟩ hfr hlo (by decide) rfl (Nat.le_of_ble_eq_true rfl) dX8_takeIn_32 rfl (fun v32 σ H locs S hM => ?_)
      refine w_astore_n (lt' := [(3, .inr (.inl v32)), (0, .inr (.inl y0)), (1, .inl y1), (2, .inl y2)]) E hl dX8_takeIn_35 (by decide) rfl (fun ls hl => ?_)
      refine w_aload_n E hl 0 dX8_takeIn_36 rfl ?_
      refine w_ifnull (tgt := 107) E hM dX8_takeIn_37 (by decide) (fun c37 hM => ?_) (fun a37 c37 hM => ?_)
      · skip
        refine w_iincN (ltf := fun v107 => [(2, .inl v107), (3, .inr (.inl v32)), (0, .inr (.inl y0)), (1, .inl y1)]) E hl 3 hM dX8_takeIn_107 rfl (by decide) (by decide) (fun _ => rfl) (fun v107 ls hM hl => ?_)
        refine lv_goto (tgt := 25) E.1 E.2.1 dX8_takeIn_110 (by decide) ?_
        exact ih y0 y1 v107 _ _ _ _ S hM (x_lv_sub hl [2, 3, 0] rfl)
      · skip
        refine w_aload_n E hl 0 dX8_takeIn_40 rfl ?_
        refine w_rR E S hM lk_8_281 rfl dX8_takeIn_41 (fun v41 hM => ?_)
        refine w_ifnonnull (tgt := 50) E hM dX8_takeIn_44 (by decide) (fun c44 hM => ?_) (fun a44 c44 hM => ?_)
        · skip
          refine lv_goto (tgt := 107) E.1 E.2.1 dX8_takeIn_47 (by decide) ?_
          refine w_iincN (ltf := fun v107 => [(2, .inl v107), (3, .inr (.inl v32)), (0, .inr (.inl y0)), (1, .inl y1)]) E hl 3 hM dX8_takeIn_107 rfl (by decide) (by decide) (fun _ => rfl) (fun v107 ls hM hl => ?_)
          refine lv_goto (tgt := 25) E.1 E.2.1 dX8_takeIn_110 (by decide) ?_
          exact ih y0 y1 v107 _ _ _ _ S hM (x_lv_sub hl [2, 3, 0] rfl)
        · skip
          refine w_aload_n E hl 0 dX8_takeIn_50 rfl ?_
          refine w_rI E S hM lk_8_284 rfl dX8_takeIn_51 (fun v51 hM => ?_)
          refine w_aload_n E hl 1 dX8_takeIn_54 rfl ?_
          refine w_rI E S hM lk_8_60 rfl dX8_takeIn_55 (fun v55 hM => ?_)
          refine lv_icmp_le (tgt := 79) E.1 E.2.1 dX8_takeIn_58 (by decide) (fun c58 => ?_) (fun c58 => ?_)
          · replace hM := x_okT hM c58
            refine w_aload_n E hl 0 dX8_takeIn_79 rfl ?_
            refine w_cVv (rest := []) E S hl hM (kX2_leaveWire l base D dA F v32) mcX2_leaveWire ⟨by decide, rfl, wd_500, wd_501, wd_502⟩ hfr hlo (by decide) rfl (Nat.le_of_ble_eq_true rfl) dX8_takeIn_80 rfl (fun σ H locs S hM => ?_)
            refine w_aload_n E hl 0 dX8_takeIn_83 rfl ?_
            refine w_rR E S hM lk_8_205 rfl dX8_takeIn_84 (fun v84 hM => ?_)
            refine w_aload_n E hl 0 dX8_takeIn_87 rfl ?_
            refine w_rR E S hM lk_8_204 rfl dX8_takeIn_88 (fun v88 hM => ?_)
            refine lv_acmp_ne (tgt := 102) E.1 E.2.1 dX8_takeIn_91 (by decide) (fun c91 => ?_) (fun c91 => ?_)
            · replace hM := x_okF hM c91
              refine w_aload_n E hl 1 dX8_takeIn_102 rfl ?_
              refine w_aload_n E hl 0 dX8_takeIn_103 rfl ?_
              refine w_cVv (rest := []) E S hl hM (kX8_enqueue l base D dA F y0 v32) mcX8_enqueue ⟨by decide, rfl, wd_436, wd_438, wp_8⟩ hfr hlo (by decide) rfl (Nat.le_of_ble_eq_true rfl) dX8_takeIn_104 rfl (fun σ H locs S hM => ?_)
              refine w_iincN (ltf := fun v107 => [(2, .inl v107), (3, .inr (.inl v32)), (0, .inr (.inl y0)), (1, .inl y1)]) E hl 3 hM dX8_takeIn_107 rfl (by decide) (by decide) (fun _ => rfl) (fun v107 ls hM hl => ?_)
              refine lv_goto (tgt := 25) E.1 E.2.1 dX8_takeIn_110 (by decide) ?_
              exact ih y0 y1 v107 _ _ _ _ S hM (x_lv_sub hl [2, 3, 0] rfl)
            · replace hM := x_okT hM c91
              refine w_aload_n E hl 1 dX8_takeIn_94 rfl ?_
              refine w_aload_n E hl 0 dX8_takeIn_95 rfl ?_
              refine w_cVv (rest := []) E S hl hM (kX8_read l base D dA F y0 v32) mcX8_read ⟨by decide, rfl, wd_504, wd_506, wp_13⟩ hfr hlo (by decide) rfl (Nat.le_of_ble_eq_true rfl) dX8_takeIn_96 rfl (fun σ H locs S hM => ?_)
              refine lv_goto (tgt := 107) E.1 E.2.1 dX8_takeIn_99 (by decide) ?_
              refine w_iincN (ltf := fun v107 => [(2, .inl v107), (3, .inr (.inl v32)), (0, .inr (.inl y0)), (1, .inl y1)]) E hl 3 hM dX8_takeIn_107 rfl (by decide) (by decide) (fun _ => rfl) (fun v107 ls hM hl => ?_)
              refine lv_goto (tgt := 25) E.1 E.2.1 dX8_takeIn_110 (by decide) ?_
              exact ih y0 y1 v107 _ _ _ _ S hM (x_lv_sub hl [2, 3, 0] rfl)
          · replace hM := x_okF hM c58
            refine w_aload_n E hl 1 dX8_takeIn_61 rfl ?_
            refine w_aload_n E hl 1 dX8_takeIn_62 rfl ?_
            refine w_rI E S hM lk_8_36 rfl dX8_takeIn_63 (fun v63 hM => ?_)
            refine w_aload_n E hl 0 dX8_takeIn_66 rfl ?_
            refine w_rI E S hM lk_8_284 rfl dX8_takeIn_67 (fun v67 hM => ?_)
            refine w_mmin E S hl ⟨wd_495, wd_232, wd_8, wd_233⟩ (by rw [hfr, hlo]; decide) (Nat.le_of_ble_eq_true rfl) dX8_takeIn_70 ?_
            refine w_wI E S hM lk_8_36 rfl (Or.inl rfl) dX8_takeIn_73 (fun σ H locs S hM => ?_)
            refine lv_goto (tgt := 107) E.1 E.2.1 dX8_takeIn_76 (by decide) ?_
            refine w_iincN (ltf := fun v107 => [(2, .inl v107), (3, .inr (.inl v32)), (0, .inr (.inl y0)), (1, .inl y1)]) E hl 3 hM dX8_takeIn_107 rfl (by decide) (by decide) (fun _ => rfl) (fun v107 ls hM hl => ?_)
            refine lv_goto (tgt := 25) E.1 E.2.1 dX8_takeIn_110 (by decide) ?_
            exact ih y0 y1 v107 _ _ _ _ S hM (x_lv_sub hl [2, 3, 0] rfl)
theorem mcX8_takeIn : x_mc yX8_takeIn cX8_takeIn 4 none 0 := ⟨wd_499, wd_1, by decide +kernel⟩
set_option maxHeartbeats 4000000 in
set_option maxRecDepth 100000 in
theorem kX8_takeIn (l : Launch) (base : Nat) (D : va_G) (dA : Nat → ClassId) (F : Nat) (r0 : Option Nat) : x_Met l base D dA yX8_takeIn cX8_takeIn 4 none 5 116 [va_rf r0] (mX8_takeIn F r0) (fun _ => none) := by
  refine x_Met.of [(0, .inr (.inl r0))] (by decide) (Nat.le_of_ble_eq_true rfl) rfl rfl ?_
  intro p e R s m args below meth c σ a τ ls hfr hlo E hr hk hn S hM hl
  have E : x_E p s m args c cX8_takeIn 4 "WireMoney" D dA := E
  unfold mX8_takeIn at hM
  refine w_aload_n E hl 0 dX8_takeIn_0 rfl ?_
  refine w_rI E S hM lk_8_60 rfl dX8_takeIn_1 (fun v1 hM => ?_)
  refine w_aload_n E hl 0 dX8_takeIn_4 rfl ?_
  refine w_rI E S hM lk_8_36 rfl dX8_takeIn_5 (fun v5 hM => ?_)
  refine lv_icmp_ge (tgt := 12) E.1 E.2.1 dX8_takeIn_8 (by decide) (fun c8 => ?_) (fun c8 => ?_)
  · replace hM := x_okT hM c8
    refine w_aload_n E hl 0 dX8_takeIn_12 rfl ?_
    refine w_ldc (v := (1000000 : Int32)) E wd_76 dX8_takeIn_13 ?_
    refine w_wI E S hM lk_8_36 rfl (Or.inl rfl) dX8_takeIn_15 (fun σ H locs S hM => ?_)
    refine w_aload_n E hl 0 dX8_takeIn_18 rfl ?_
    refine w_rI E S hM lk_8_135 rfl dX8_takeIn_19 (fun v19 hM => ?_)
    refine w_istore_n (lt' := [(1, .inl v19), (0, .inr (.inl r0))]) E hl dX8_takeIn_22 (by decide) rfl (fun ls hl => ?_)
    refine lv_iconst (v := (0 : Int32)) E.1 E.2.1 dX8_takeIn_23 (by decide) ?_
    refine w_istore_n (lt' := [(2, .inl (0 : Int32)), (1, .inl v19), (0, .inr (.inl r0))]) E hl dX8_takeIn_24 (by decide) rfl (fun ls hl => ?_)
    exact bX8_takeIn_25 E hr hk hfr hlo F r0 v19 (0 : Int32) _ _ _ _ S hM (x_lv_sub hl [2, 1, 0] rfl)
  · replace hM := x_okF hM c8
    exact w_vret E S hM hr hk dX8_takeIn_11
theorem dX8_sendFirst_0 : decode cX8_sendFirst 0 = .ok (.aload_n 1, 1) := by decide +kernel
theorem dX8_sendFirst_1 : decode cX8_sendFirst 1 = .ok (.invokevirtual 310, 3) := by decide +kernel
theorem dX8_sendFirst_4 : decode cX8_sendFirst 4 = .ok (.astore_n 3, 1) := by decide +kernel
theorem dX8_sendFirst_5 : decode cX8_sendFirst 5 = .ok (.aload_n 3, 1) := by decide +kernel
theorem dX8_sendFirst_6 : decode cX8_sendFirst 6 = .ok (.ifnull 24, 3) := by decide +kernel
theorem dX8_sendFirst_9 : decode cX8_sendFirst 9 = .ok (.aload_n 3, 1) := by decide +kernel
theorem dX8_sendFirst_10 : decode cX8_sendFirst 10 = .ok (.aload_n 1, 1) := by decide +kernel
theorem dX8_sendFirst_11 : decode cX8_sendFirst 11 = .ok (.getfield 314, 3) := by decide +kernel
theorem dX8_sendFirst_14 : decode cX8_sendFirst 14 = .ok (.iload_n 2, 1) := by decide +kernel
theorem dX8_sendFirst_15 : decode cX8_sendFirst 15 = .ok (.invokevirtual 317, 3) := by decide +kernel
theorem dX8_sendFirst_18 : decode cX8_sendFirst 18 = .ok (.aload_n 0, 1) := by decide +kernel
theorem dX8_sendFirst_19 : decode cX8_sendFirst 19 = .ok (.aload_n 0, 1) := by decide +kernel
theorem dX8_sendFirst_20 : decode cX8_sendFirst 20 = .ok (.getfield 36, 3) := by decide +kernel
theorem dX8_sendFirst_23 : decode cX8_sendFirst 23 = .ok (.iload_n 2, 1) := by decide +kernel
theorem dX8_sendFirst_24 : decode cX8_sendFirst 24 = .ok (.invokestatic 177, 3) := by decide +kernel
theorem dX8_sendFirst_27 : decode cX8_sendFirst 27 = .ok (.putfield 36, 3) := by decide +kernel
theorem dX8_sendFirst_30 : decode cX8_sendFirst 30 = .ok (.return_, 1) := by decide +kernel
theorem mcX8_sendFirst : x_mc yX8_sendFirst cX8_sendFirst 4 none 2 := ⟨wd_539, wd_1, by decide +kernel⟩
set_option maxHeartbeats 4000000 in
set_option maxRecDepth 100000 in
theorem kX8_sendFirst (l : Launch) (base : Nat) (D : va_G) (dA : Nat → ClassId) (F : Nat) (r0 : Option Nat) (r1 : Option Nat) (x2 : Int32) : x_Met l base D dA yX8_sendFirst cX8_sendFirst 4 none 1 22 [va_rf r0, va_rf r1, .int x2] (mX8_sendFirst F r0 r1 x2) (fun _ => none) := by
  refine x_Met.of [(0, .inr (.inl r0)), (1, .inr (.inl r1)), (2, .inl x2)] (by decide) (Nat.le_of_ble_eq_true rfl) rfl rfl ?_
  intro p e R s m args below meth c σ a τ ls hfr hlo E hr hk hn S hM hl
  have E : x_E p s m args c cX8_sendFirst 4 "WireMoney" D dA := E
  unfold mX8_sendFirst at hM
  refine w_aload_n E hl 1 dX8_sendFirst_0 rfl ?_
  refine w_cVq (rest := []) E S hl hM (kX5_take l base D dA F r1) mcX5_take ⟨by decide, rfl, wd_540, wd_541, wd_542⟩ hfr hlo (by decide) rfl (Nat.le_of_ble_eq_true rfl) dX8_sendFirst_1 rfl (fun v1 σ H locs S hM => ?_)
  refine w_astore_n (lt' := [(3, .inr (.inl v1)), (0, .inr (.inl r0)), (1, .inr (.inl r1)), (2, .inl x2)]) E hl dX8_sendFirst_4 (by decide) rfl (fun ls hl => ?_)
  refine w_aload_n E hl 0 dX8_sendFirst_5 rfl ?_
  refine w_ifnull (tgt := 30) E hM dX8_sendFirst_6 (by decide) (fun c6 hM => ?_) (fun a6 c6 hM => ?_)
  · skip
    exact w_vret E S hM hr hk dX8_sendFirst_30
  · skip
    refine w_aload_n E hl 0 dX8_sendFirst_9 rfl ?_
    refine w_aload_n E hl 2 dX8_sendFirst_10 rfl ?_
    refine w_rR E S hM lk_8_314 rfl dX8_sendFirst_11 (fun v11 hM => ?_)
    refine w_iload_n E hl 3 dX8_sendFirst_14 rfl ?_
    refine w_cVv (rest := []) E S hl hM (kX2_enterWire l base D dA F v1 v11 x2) mcX2_enterWire ⟨by decide, rfl, wd_544, wd_545, wd_546⟩ hfr hlo (by decide) rfl (Nat.le_of_ble_eq_true rfl) dX8_sendFirst_15 rfl (fun σ H locs S hM => ?_)
    refine w_aload_n E hl 1 dX8_sendFirst_18 rfl ?_
    refine w_aload_n E hl 1 dX8_sendFirst_19 rfl ?_
    refine w_rI E S hM lk_8_36 rfl dX8_sendFirst_20 (fun v20 hM => ?_)
    refine w_iload_n E hl 3 dX8_sendFirst_23 rfl ?_
    refine w_mmin E S hl ⟨wd_495, wd_232, wd_8, wd_233⟩ (by rw [hfr, hlo]; decide) (Nat.le_of_ble_eq_true rfl) dX8_sendFirst_24 ?_
    refine w_wI E S hM lk_8_36 rfl (Or.inl rfl) dX8_sendFirst_27 (fun σ H locs S hM => ?_)
    exact w_vret E S hM hr hk dX8_sendFirst_30
theorem dX8_sendOut_0 : decode cX8_sendOut 0 = .ok (.iconst 0, 1) := by decide +kernel
theorem dX8_sendOut_1 : decode cX8_sendOut 1 = .ok (.istore_n 1, 1) := by decide +kernel
theorem dX8_sendOut_2 : decode cX8_sendOut 2 = .ok (.iload_n 1, 1) := by decide +kernel
theorem dX8_sendOut_3 : decode cX8_sendOut 3 = .ok (.aload_n 0, 1) := by decide +kernel
theorem dX8_sendOut_4 : decode cX8_sendOut 4 = .ok (.getfield 12, 3) := by decide +kernel
theorem dX8_sendOut_7 : decode cX8_sendOut 7 = .ok (.getfield 244, 3) := by decide +kernel
theorem dX8_sendOut_10 : decode cX8_sendOut 10 = .ok (.if_icmp .ge 67, 3) := by decide +kernel
theorem dX8_sendOut_13 : decode cX8_sendOut 13 = .ok (.aload_n 0, 1) := by decide +kernel
theorem dX8_sendOut_14 : decode cX8_sendOut 14 = .ok (.getfield 12, 3) := by decide +kernel
theorem dX8_sendOut_17 : decode cX8_sendOut 17 = .ok (.iload_n 1, 1) := by decide +kernel
theorem dX8_sendOut_18 : decode cX8_sendOut 18 = .ok (.invokevirtual 56, 3) := by decide +kernel
theorem dX8_sendOut_21 : decode cX8_sendOut 21 = .ok (.astore_n 2, 1) := by decide +kernel
theorem dX8_sendOut_22 : decode cX8_sendOut 22 = .ok (.aload_n 2, 1) := by decide +kernel
theorem dX8_sendOut_23 : decode cX8_sendOut 23 = .ok (.ifnull 48, 3) := by decide +kernel
theorem dX8_sendOut_26 : decode cX8_sendOut 26 = .ok (.aload_n 2, 1) := by decide +kernel
theorem dX8_sendOut_27 : decode cX8_sendOut 27 = .ok (.aload_n 0, 1) := by decide +kernel
theorem dX8_sendOut_28 : decode cX8_sendOut 28 = .ok (.getfield 60, 3) := by decide +kernel
theorem dX8_sendOut_31 : decode cX8_sendOut 31 = .ok (.invokevirtual 293, 3) := by decide +kernel
theorem dX8_sendOut_34 : decode cX8_sendOut 34 = .ok (.ifCond .ne 37, 3) := by decide +kernel
theorem dX8_sendOut_37 : decode cX8_sendOut 37 = .ok (.aload_n 0, 1) := by decide +kernel
theorem dX8_sendOut_38 : decode cX8_sendOut 38 = .ok (.aload_n 2, 1) := by decide +kernel
theorem dX8_sendOut_39 : decode cX8_sendOut 39 = .ok (.getfield 296, 3) := by decide +kernel
theorem dX8_sendOut_42 : decode cX8_sendOut 42 = .ok (.aload_n 0, 1) := by decide +kernel
theorem dX8_sendOut_43 : decode cX8_sendOut 43 = .ok (.getfield 60, 3) := by decide +kernel
theorem dX8_sendOut_46 : decode cX8_sendOut 46 = .ok (.aload_n 2, 1) := by decide +kernel
theorem dX8_sendOut_47 : decode cX8_sendOut 47 = .ok (.getfield 300, 3) := by decide +kernel
theorem dX8_sendOut_50 : decode cX8_sendOut 50 = .ok (.iadd, 1) := by decide +kernel
theorem dX8_sendOut_51 : decode cX8_sendOut 51 = .ok (.invokevirtual 303, 3) := by decide +kernel
theorem dX8_sendOut_54 : decode cX8_sendOut 54 = .ok (.aload_n 0, 1) := by decide +kernel
theorem dX8_sendOut_55 : decode cX8_sendOut 55 = .ok (.aload_n 2, 1) := by decide +kernel
theorem dX8_sendOut_56 : decode cX8_sendOut 56 = .ok (.getfield 307, 3) := by decide +kernel
theorem dX8_sendOut_59 : decode cX8_sendOut 59 = .ok (.aload_n 0, 1) := by decide +kernel
theorem dX8_sendOut_60 : decode cX8_sendOut 60 = .ok (.getfield 60, 3) := by decide +kernel
theorem dX8_sendOut_63 : decode cX8_sendOut 63 = .ok (.aload_n 2, 1) := by decide +kernel
theorem dX8_sendOut_64 : decode cX8_sendOut 64 = .ok (.getfield 300, 3) := by decide +kernel
theorem dX8_sendOut_67 : decode cX8_sendOut 67 = .ok (.iadd, 1) := by decide +kernel
theorem dX8_sendOut_68 : decode cX8_sendOut 68 = .ok (.invokevirtual 303, 3) := by decide +kernel
theorem dX8_sendOut_71 : decode cX8_sendOut 71 = .ok (.iinc 1 1, 3) := by decide +kernel
theorem dX8_sendOut_74 : decode cX8_sendOut 74 = .ok (.goto (-72), 3) := by decide +kernel
theorem dX8_sendOut_77 : decode cX8_sendOut 77 = .ok (.return_, 1) := by decide +kernel
set_option maxHeartbeats 4000000 in
set_option maxRecDepth 100000 in
theorem bX8_sendOut_2 {p : Program} {l : Launch} {e : Env} {R : Room} {s : State} {m : MethodId} {args : Array Value} {below : List Frame} {meth : Method} {c : Code} {base : Nat} {D : va_G} {dA : Nat → ClassId} {σ0 : PH} {z : Unit × PH} {F : Nat} (E : x_E p s m args c cX8_sendOut 3 "WireMoney" D dA) (hr : meth.sig.returnType = none) (hk : meth.locks = false) (hfr : R.frames = 2) (hlo : R.locals = 45) : ∀ (n : Nat) (y0 : Option Nat) (y1 : Int32) (σ : PH) (H : Heap) (locs : List Loc) (ls : Array Slot), x_S base D dA R s σ0 z.2 σ H locs → x_rn (mX8_sendOut_2 F n y0 y1) σ = some z → x_lv ls 3 [(0, .inr (.inl y0)), (1, .inl y1)] → W p l e R s m args below meth c H locs (x_N σ - x_N σ0) (x_U σ - x_U σ0) (x_end below args s base D dA (fun _ => none) σ0 z) (F0 m 2 ls []) := by
  intro n
  induction n with
  | zero =>
    intro y0 y1 σ H locs ls S hM hl
    cases hM
  | succ n ih =>
    intro y0 y1 σ H locs ls S hM hl
    rw [mX8_sendOut_2] at hM
    refine w_iload_n E hl 1 dX8_sendOut_2 rfl ?_
    refine w_aload_n E hl 0 dX8_sendOut_3 rfl ?_
    refine w_rR E S hM lk_8_12 rfl dX8_sendOut_4 (fun v4 hM => ?_)
    refine w_rI E S hM lk_8_244 rfl dX8_sendOut_7 (fun v7 hM => ?_)
    refine lv_icmp_ge (tgt := 77) E.1 E.2.1 dX8_sendOut_10 (by decide) (fun c10 => ?_) (fun c10 => ?_)
    · replace hM := x_okT hM c10
      exact w_vret E S hM hr hk dX8_sendOut_77
    · replace hM := x_okF hM c10
      refine w_aload_n E hl 0 dX8_sendOut_13 rfl ?_
      refine w_rR E S hM lk_8_12 rfl dX8_sendOut_14 (fun v14 hM => ?_)
      refine w_iload_n E hl 1 dX8_sendOut_17 rfl ?_
      refine w_cVq (rest := []) E S hl hM (kX3_findWire l base D dA F v14 y1) mcX3_findWire ⟨by decide, rfl, wd_246, wd_247, wd_248⟩ hfr hlo (by decide) rfl (Nat.le_of_ble_eq_true rfl) dX8_sendOut_18 rfl (fun v18 σ H locs S hM => ?_)
      refine w_astore_n (lt' := [(2, .inr (.inl v18)), (0, .inr (.inl y0)), (1, .inl y1)]) E hl dX8_sendOut_21 (by decide) rfl (fun ls hl => ?_)
      refine w_aload_n E hl 0 dX8_sendOut_22 rfl ?_
      refine w_ifnull (tgt := 71) E hM dX8_sendOut_23 (by decide) (fun c23 hM => ?_) (fun a23 c23 hM => ?_)
      · skip
        refine w_iincN (ltf := fun v71 => [(1, .inl v71), (2, .inr (.inl v18)), (0, .inr (.inl y0))]) E hl 2 hM dX8_sendOut_71 rfl (by decide) (by decide) (fun _ => rfl) (fun v71 ls hM hl => ?_)
        refine lv_goto (tgt := 2) E.1 E.2.1 dX8_sendOut_74 (by decide) ?_
        exact ih y0 v71 _ _ _ _ S hM (x_lv_sub hl [2, 0] rfl)
      · skip
        refine w_aload_n E hl 0 dX8_sendOut_26 rfl ?_
        refine w_aload_n E hl 1 dX8_sendOut_27 rfl ?_
        refine w_rI E S hM lk_8_60 rfl dX8_sendOut_28 (fun v28 hM => ?_)
        refine w_cVi (rest := []) E S hl hM (kX7_isDown l base D dA F v18 v28) mcX7_isDown ⟨by decide, rfl, wd_532, wd_533, wd_534⟩ hfr hlo (by decide) rfl (Nat.le_of_ble_eq_true rfl) dX8_sendOut_31 rfl (fun v31 σ H locs S hM => ?_)
        refine lv_if_ne (tgt := 71) E.1 E.2.1 dX8_sendOut_34 (by decide) (fun c34 => ?_) (fun c34 => ?_)
        · replace hM := x_okF hM c34
          refine w_iincN (ltf := fun v71 => [(1, .inl v71), (2, .inr (.inl v18)), (0, .inr (.inl y0))]) E hl 2 hM dX8_sendOut_71 rfl (by decide) (by decide) (fun _ => rfl) (fun v71 ls hM hl => ?_)
          refine lv_goto (tgt := 2) E.1 E.2.1 dX8_sendOut_74 (by decide) ?_
          exact ih y0 v71 _ _ _ _ S hM (x_lv_sub hl [2, 0] rfl)
        · replace hM := x_okT hM c34
          refine w_aload_n E hl 1 dX8_sendOut_37 rfl ?_
          refine w_aload_n E hl 0 dX8_sendOut_38 rfl ?_
          refine w_rR E S hM lk_8_296 rfl dX8_sendOut_39 (fun v39 hM => ?_)
          refine w_aload_n E hl 1 dX8_sendOut_42 rfl ?_
          refine w_rI E S hM lk_8_60 rfl dX8_sendOut_43 (fun v43 hM => ?_)
          refine w_aload_n E hl 0 dX8_sendOut_46 rfl ?_
          refine w_rI E S hM lk_8_300 rfl dX8_sendOut_47 (fun v47 hM => ?_)
          refine lv_iadd E.1 E.2.1 dX8_sendOut_50 ?_
          refine w_cVv (rest := []) E S hl hM (kX8_sendFirst l base D dA F y0 v39 (v43 + v47)) mcX8_sendFirst ⟨by decide, rfl, wd_536, wd_538, wp_19⟩ hfr hlo (by decide) rfl (Nat.le_of_ble_eq_true rfl) dX8_sendOut_51 rfl (fun σ H locs S hM => ?_)
          refine w_aload_n E hl 1 dX8_sendOut_54 rfl ?_
          refine w_aload_n E hl 0 dX8_sendOut_55 rfl ?_
          refine w_rR E S hM lk_8_307 rfl dX8_sendOut_56 (fun v56 hM => ?_)
          refine w_aload_n E hl 1 dX8_sendOut_59 rfl ?_
          refine w_rI E S hM lk_8_60 rfl dX8_sendOut_60 (fun v60 hM => ?_)
          refine w_aload_n E hl 0 dX8_sendOut_63 rfl ?_
          refine w_rI E S hM lk_8_300 rfl dX8_sendOut_64 (fun v64 hM => ?_)
          refine lv_iadd E.1 E.2.1 dX8_sendOut_67 ?_
          refine w_cVv (rest := []) E S hl hM (kX8_sendFirst l base D dA F y0 v56 (v60 + v64)) mcX8_sendFirst ⟨by decide, rfl, wd_536, wd_538, wp_19⟩ hfr hlo (by decide) rfl (Nat.le_of_ble_eq_true rfl) dX8_sendOut_68 rfl (fun σ H locs S hM => ?_)
          refine w_iincN (ltf := fun v71 => [(1, .inl v71), (2, .inr (.inl v18)), (0, .inr (.inl y0))]) E hl 2 hM dX8_sendOut_71 rfl (by decide) (by decide) (fun _ => rfl) (fun v71 ls hM hl => ?_)
          refine lv_goto (tgt := 2) E.1 E.2.1 dX8_sendOut_74 (by decide) ?_
          exact ih y0 v71 _ _ _ _ S hM (x_lv_sub hl [2, 0] rfl)
theorem mcX8_sendOut : x_mc yX8_sendOut cX8_sendOut 3 none 0 := ⟨wd_531, wd_1, by decide +kernel⟩
set_option maxHeartbeats 4000000 in
set_option maxRecDepth 100000 in
theorem kX8_sendOut (l : Launch) (base : Nat) (D : va_G) (dA : Nat → ClassId) (F : Nat) (r0 : Option Nat) : x_Met l base D dA yX8_sendOut cX8_sendOut 3 none 2 45 [va_rf r0] (mX8_sendOut F r0) (fun _ => none) := by
  refine x_Met.of [(0, .inr (.inl r0))] (by decide) (Nat.le_of_ble_eq_true rfl) rfl rfl ?_
  intro p e R s m args below meth c σ a τ ls hfr hlo E hr hk hn S hM hl
  have E : x_E p s m args c cX8_sendOut 3 "WireMoney" D dA := E
  unfold mX8_sendOut at hM
  refine lv_iconst (v := (0 : Int32)) E.1 E.2.1 dX8_sendOut_0 (by decide) ?_
  refine w_istore_n (lt' := [(1, .inl (0 : Int32)), (0, .inr (.inl r0))]) E hl dX8_sendOut_1 (by decide) rfl (fun ls hl => ?_)
  exact bX8_sendOut_2 E hr hk hfr hlo F r0 (0 : Int32) _ _ _ _ S hM (x_lv_sub hl [1, 0] rfl)
theorem dX8_go_0 : decode cX8_go 0 = .ok (.iload_n 1, 1) := by decide +kernel
theorem dX8_go_1 : decode cX8_go 1 = .ok (.iconst 0, 1) := by decide +kernel
theorem dX8_go_2 : decode cX8_go 2 = .ok (.sipush 2000, 3) := by decide +kernel
theorem dX8_go_5 : decode cX8_go 5 = .ok (.invokestatic 40, 3) := by decide +kernel
theorem dX8_go_8 : decode cX8_go 8 = .ok (.ifCond .ne 5, 3) := by decide +kernel
theorem dX8_go_11 : decode cX8_go 11 = .ok (.iconst (-1), 1) := by decide +kernel
theorem dX8_go_12 : decode cX8_go 12 = .ok (.ireturn, 1) := by decide +kernel
theorem dX8_go_13 : decode cX8_go 13 = .ok (.aload_n 0, 1) := by decide +kernel
theorem dX8_go_14 : decode cX8_go 14 = .ok (.getfield 60, 3) := by decide +kernel
theorem dX8_go_17 : decode cX8_go 17 = .ok (.iload_n 1, 1) := by decide +kernel
theorem dX8_go_18 : decode cX8_go 18 = .ok (.iadd, 1) := by decide +kernel
theorem dX8_go_19 : decode cX8_go 19 = .ok (.sipush 20000, 3) := by decide +kernel
theorem dX8_go_22 : decode cX8_go 22 = .ok (.invokestatic 177, 3) := by decide +kernel
theorem dX8_go_25 : decode cX8_go 25 = .ok (.istore_n 2, 1) := by decide +kernel
theorem dX8_go_26 : decode cX8_go 26 = .ok (.aload_n 0, 1) := by decide +kernel
theorem dX8_go_27 : decode cX8_go 27 = .ok (.getfield 60, 3) := by decide +kernel
theorem dX8_go_30 : decode cX8_go 30 = .ok (.istore_n 3, 1) := by decide +kernel
theorem dX8_go_31 : decode cX8_go 31 = .ok (.iload_n 3, 1) := by decide +kernel
theorem dX8_go_32 : decode cX8_go 32 = .ok (.iload_n 2, 1) := by decide +kernel
theorem dX8_go_33 : decode cX8_go 33 = .ok (.if_icmp .ge 24, 3) := by decide +kernel
theorem dX8_go_36 : decode cX8_go 36 = .ok (.aload_n 0, 1) := by decide +kernel
theorem dX8_go_37 : decode cX8_go 37 = .ok (.invokevirtual 183, 3) := by decide +kernel
theorem dX8_go_40 : decode cX8_go 40 = .ok (.aload_n 0, 1) := by decide +kernel
theorem dX8_go_41 : decode cX8_go 41 = .ok (.invokevirtual 186, 3) := by decide +kernel
theorem dX8_go_44 : decode cX8_go 44 = .ok (.aload_n 0, 1) := by decide +kernel
theorem dX8_go_45 : decode cX8_go 45 = .ok (.iload_n 3, 1) := by decide +kernel
theorem dX8_go_46 : decode cX8_go 46 = .ok (.iconst 1, 1) := by decide +kernel
theorem dX8_go_47 : decode cX8_go 47 = .ok (.iadd, 1) := by decide +kernel
theorem dX8_go_48 : decode cX8_go 48 = .ok (.putfield 60, 3) := by decide +kernel
theorem dX8_go_51 : decode cX8_go 51 = .ok (.iinc 3 1, 3) := by decide +kernel
theorem dX8_go_54 : decode cX8_go 54 = .ok (.goto (-23), 3) := by decide +kernel
theorem dX8_go_57 : decode cX8_go 57 = .ok (.aload_n 0, 1) := by decide +kernel
theorem dX8_go_58 : decode cX8_go 58 = .ok (.getfield 60, 3) := by decide +kernel
theorem dX8_go_61 : decode cX8_go 61 = .ok (.ireturn, 1) := by decide +kernel
set_option maxHeartbeats 4000000 in
set_option maxRecDepth 100000 in
theorem bX8_go_31 {p : Program} {l : Launch} {e : Env} {R : Room} {s : State} {m : MethodId} {args : Array Value} {below : List Frame} {meth : Method} {c : Code} {base : Nat} {D : va_G} {dA : Nat → ClassId} {σ0 : PH} {z : Int32 × PH} {F : Nat} (E : x_E p s m args c cX8_go 4 "WireMoney" D dA) (hr : meth.sig.returnType = (some .int)) (hk : meth.locks = false) (hfr : R.frames = 6) (hlo : R.locals = 139) : ∀ (n : Nat) (y0 : Option Nat) (y2 : Int32) (y3 : Int32) (σ : PH) (H : Heap) (locs : List Loc) (ls : Array Slot), x_S base D dA R s σ0 z.2 σ H locs → x_rn (mX8_go_31 F n y0 y2 y3) σ = some z → x_lv ls 4 [(0, .inr (.inl y0)), (2, .inl y2), (3, .inl y3)] → W p l e R s m args below meth c H locs (x_N σ - x_N σ0) (x_U σ - x_U σ0) (x_end below args s base D dA (fun x => some (.int x)) σ0 z) (F0 m 31 ls []) := by
  intro n
  induction n with
  | zero =>
    intro y0 y2 y3 σ H locs ls S hM hl
    cases hM
  | succ n ih =>
    intro y0 y2 y3 σ H locs ls S hM hl
    rw [mX8_go_31] at hM
    refine w_iload_n E hl 2 dX8_go_31 rfl ?_
    refine w_iload_n E hl 1 dX8_go_32 rfl ?_
    refine lv_icmp_ge (tgt := 57) E.1 E.2.1 dX8_go_33 (by decide) (fun c33 => ?_) (fun c33 => ?_)
    · replace hM := x_okT hM c33
      refine w_aload_n E hl 0 dX8_go_57 rfl ?_
      refine w_rI E S hM lk_8_60 rfl dX8_go_58 (fun v58 hM => ?_)
      exact w_iret E S hM hr hk dX8_go_61
    · replace hM := x_okF hM c33
      refine w_aload_n E hl 0 dX8_go_36 rfl ?_
      refine w_cVv (rest := []) E S hl hM (kX8_takeIn l base D dA F y0) mcX8_takeIn ⟨by decide, rfl, wd_496, wd_498, wp_12⟩ hfr hlo (by decide) rfl (Nat.le_of_ble_eq_true rfl) dX8_go_37 rfl (fun σ H locs S hM => ?_)
      refine w_aload_n E hl 0 dX8_go_40 rfl ?_
      refine w_cVv (rest := []) E S hl hM (kX8_sendOut l base D dA F y0) mcX8_sendOut ⟨by decide, rfl, wd_528, wd_530, wp_18⟩ hfr hlo (by decide) rfl (Nat.le_of_ble_eq_true rfl) dX8_go_41 rfl (fun σ H locs S hM => ?_)
      refine w_aload_n E hl 0 dX8_go_44 rfl ?_
      refine w_iload_n E hl 2 dX8_go_45 rfl ?_
      refine lv_iconst (v := (1 : Int32)) E.1 E.2.1 dX8_go_46 (by decide) ?_
      refine lv_iadd E.1 E.2.1 dX8_go_47 ?_
      refine w_wI E S hM lk_8_60 rfl (Or.inl rfl) dX8_go_48 (fun σ H locs S hM => ?_)
      refine w_iincN (ltf := fun v51 => [(3, .inl v51), (0, .inr (.inl y0)), (2, .inl y2)]) E hl 2 hM dX8_go_51 rfl (by decide) (by decide) (fun _ => rfl) (fun v51 ls hM hl => ?_)
      refine lv_goto (tgt := 31) E.1 E.2.1 dX8_go_54 (by decide) ?_
      exact ih y0 y2 v51 _ _ _ _ S hM (x_lv_sub hl [1, 2, 0] rfl)
theorem mcX8_go : x_mc yX8_go cX8_go 4 (some .int) 1 := ⟨wd_494, wd_1, by decide +kernel⟩
set_option maxHeartbeats 4000000 in
set_option maxRecDepth 100000 in
theorem kX8_go (l : Launch) (base : Nat) (D : va_G) (dA : Nat → ClassId) (F : Nat) (r0 : Option Nat) (x1 : Int32) : x_Met l base D dA yX8_go cX8_go 4 (some .int) 6 139 [va_rf r0, .int x1] (mX8_go F r0 x1) (fun x => some (.int x)) := by
  refine x_Met.of [(0, .inr (.inl r0)), (1, .inl x1)] (by decide) (Nat.le_of_ble_eq_true rfl) rfl rfl ?_
  intro p e R s m args below meth c σ a τ ls hfr hlo E hr hk hn S hM hl
  have E : x_E p s m args c cX8_go 4 "WireMoney" D dA := E
  unfold mX8_go at hM
  refine w_iload_n E hl 1 dX8_go_0 rfl ?_
  refine lv_iconst (v := (0 : Int32)) E.1 E.2.1 dX8_go_1 (by decide) ?_
  refine lv_sipush (v := (2000 : Int32)) E.1 E.2.1 dX8_go_2 (by decide) ?_
  refine w_cSi (rest := []) E S hl hM (kX8_isWithin l base D dA F x1 (0 : Int32) (2000 : Int32)) mcX8_isWithin ⟨wd_115, wd_116⟩ hfr hlo (by decide) rfl (Nat.le_of_ble_eq_true rfl) dX8_go_5 rfl (fun v5 σ H locs S hM => ?_)
  refine lv_if_ne (tgt := 13) E.1 E.2.1 dX8_go_8 (by decide) (fun c8 => ?_) (fun c8 => ?_)
  · replace hM := x_okF hM c8
    refine w_aload_n E hl 0 dX8_go_13 rfl ?_
    refine w_rI E S hM lk_8_60 rfl dX8_go_14 (fun v14 hM => ?_)
    refine w_iload_n E hl 1 dX8_go_17 rfl ?_
    refine lv_iadd E.1 E.2.1 dX8_go_18 ?_
    refine lv_sipush (v := (20000 : Int32)) E.1 E.2.1 dX8_go_19 (by decide) ?_
    refine w_mmin E S hl ⟨wd_495, wd_232, wd_8, wd_233⟩ (by rw [hfr, hlo]; decide) (Nat.le_of_ble_eq_true rfl) dX8_go_22 ?_
    refine w_nm hM (fun v25 hM => ?_)
    refine w_istore_n (lt' := [(2, .inl v25), (0, .inr (.inl r0)), (1, .inl x1)]) E hl dX8_go_25 (by decide) rfl (fun ls hl => ?_)
    refine w_aload_n E hl 1 dX8_go_26 rfl ?_
    refine w_rI E S hM lk_8_60 rfl dX8_go_27 (fun v27 hM => ?_)
    refine w_istore_n (lt' := [(3, .inl v27), (2, .inl v25), (0, .inr (.inl r0)), (1, .inl x1)]) E hl dX8_go_30 (by decide) rfl (fun ls hl => ?_)
    exact bX8_go_31 E hr hk hfr hlo F r0 v25 v27 _ _ _ _ S hM (x_lv_sub hl [2, 1, 0] rfl)
  · replace hM := x_okT hM c8
    refine lv_iconst (v := (-1 : Int32)) E.1 E.2.1 dX8_go_11 (by decide) ?_
    exact w_iret E S hM hr hk dX8_go_12
theorem dX8_sign_0 : decode cX8_sign 0 = .ok (.aload_n 0, 1) := by decide +kernel
theorem dX8_sign_1 : decode cX8_sign 1 = .ok (.iload_n 1, 1) := by decide +kernel
theorem dX8_sign_2 : decode cX8_sign 2 = .ok (.invokevirtual 161, 3) := by decide +kernel
theorem dX8_sign_5 : decode cX8_sign 5 = .ok (.astore_n 3, 1) := by decide +kernel
theorem dX8_sign_6 : decode cX8_sign 6 = .ok (.aload_n 3, 1) := by decide +kernel
theorem dX8_sign_7 : decode cX8_sign 7 = .ok (.ifnull 10, 3) := by decide +kernel
theorem dX8_sign_10 : decode cX8_sign 10 = .ok (.aload_n 3, 1) := by decide +kernel
theorem dX8_sign_11 : decode cX8_sign 11 = .ok (.getfield 165, 3) := by decide +kernel
theorem dX8_sign_14 : decode cX8_sign 14 = .ok (.ifnonnull 5, 3) := by decide +kernel
theorem dX8_sign_17 : decode cX8_sign 17 = .ok (.iconst (-1), 1) := by decide +kernel
theorem dX8_sign_18 : decode cX8_sign 18 = .ok (.ireturn, 1) := by decide +kernel
theorem dX8_sign_19 : decode cX8_sign 19 = .ok (.iload_n 2, 1) := by decide +kernel
theorem dX8_sign_20 : decode cX8_sign 20 = .ok (.bipush 13, 2) := by decide +kernel
theorem dX8_sign_22 : decode cX8_sign 22 = .ok (.if_icmp .ne 13, 3) := by decide +kernel
theorem dX8_sign_25 : decode cX8_sign 25 = .ok (.aload_n 3, 1) := by decide +kernel
theorem dX8_sign_26 : decode cX8_sign 26 = .ok (.getfield 165, 3) := by decide +kernel
theorem dX8_sign_29 : decode cX8_sign 29 = .ok (.getfield 189, 3) := by decide +kernel
theorem dX8_sign_32 : decode cX8_sign 32 = .ok (.goto 11, 3) := by decide +kernel
theorem dX8_sign_35 : decode cX8_sign 35 = .ok (.aload_n 3, 1) := by decide +kernel
theorem dX8_sign_36 : decode cX8_sign 36 = .ok (.getfield 165, 3) := by decide +kernel
theorem dX8_sign_39 : decode cX8_sign 39 = .ok (.iload_n 2, 1) := by decide +kernel
theorem dX8_sign_40 : decode cX8_sign 40 = .ok (.invokevirtual 192, 3) := by decide +kernel
theorem dX8_sign_43 : decode cX8_sign 43 = .ok (.ireturn, 1) := by decide +kernel
theorem mcX8_sign : x_mc yX8_sign cX8_sign 4 (some .int) 2 := ⟨wd_551, wd_1, by decide +kernel⟩
set_option maxHeartbeats 4000000 in
set_option maxRecDepth 100000 in
theorem kX8_sign (l : Launch) (base : Nat) (D : va_G) (dA : Nat → ClassId) (F : Nat) (r0 : Option Nat) (x1 : Int32) (x2 : Int32) : x_Met l base D dA yX8_sign cX8_sign 4 (some .int) 1 21 [va_rf r0, .int x1, .int x2] (mX8_sign F r0 x1 x2) (fun x => some (.int x)) := by
  refine x_Met.of [(0, .inr (.inl r0)), (1, .inl x1), (2, .inl x2)] (by decide) (Nat.le_of_ble_eq_true rfl) rfl rfl ?_
  intro p e R s m args below meth c σ a τ ls hfr hlo E hr hk hn S hM hl
  have E : x_E p s m args c cX8_sign 4 "WireMoney" D dA := E
  unfold mX8_sign at hM
  refine w_aload_n E hl 0 dX8_sign_0 rfl ?_
  refine w_iload_n E hl 1 dX8_sign_1 rfl ?_
  refine w_cVq (rest := []) E S hl hM (kX8_findMessage l base D dA F r0 x1) mcX8_findMessage ⟨by decide, rfl, wd_479, wd_481, wp_11⟩ hfr hlo (by decide) rfl (Nat.le_of_ble_eq_true rfl) dX8_sign_2 rfl (fun v2 σ H locs S hM => ?_)
  refine w_astore_n (lt' := [(3, .inr (.inl v2)), (0, .inr (.inl r0)), (1, .inl x1), (2, .inl x2)]) E hl dX8_sign_5 (by decide) rfl (fun ls hl => ?_)
  refine w_aload_n E hl 0 dX8_sign_6 rfl ?_
  refine w_ifnull (tgt := 17) E hM dX8_sign_7 (by decide) (fun c7 hM => ?_) (fun a7 c7 hM => ?_)
  · skip
    refine lv_iconst (v := (-1 : Int32)) E.1 E.2.1 dX8_sign_17 (by decide) ?_
    exact w_iret E S hM hr hk dX8_sign_18
  · skip
    refine w_aload_n E hl 0 dX8_sign_10 rfl ?_
    refine w_rR E S hM lk_8_165 rfl dX8_sign_11 (fun v11 hM => ?_)
    refine w_ifnonnull (tgt := 19) E hM dX8_sign_14 (by decide) (fun c14 hM => ?_) (fun a14 c14 hM => ?_)
    · skip
      refine lv_iconst (v := (-1 : Int32)) E.1 E.2.1 dX8_sign_17 (by decide) ?_
      exact w_iret E S hM hr hk dX8_sign_18
    · skip
      refine w_iload_n E hl 3 dX8_sign_19 rfl ?_
      refine lv_bipush (v := (13 : Int32)) E.1 E.2.1 dX8_sign_20 (by decide) ?_
      refine lv_icmp_ne (tgt := 35) E.1 E.2.1 dX8_sign_22 (by decide) (fun c22 => ?_) (fun c22 => ?_)
      · replace hM := x_okF hM c22
        refine w_aload_n E hl 0 dX8_sign_35 rfl ?_
        refine w_rR E S hM lk_8_165 rfl dX8_sign_36 (fun v36 hM => ?_)
        refine w_iload_n E hl 3 dX8_sign_39 rfl ?_
        refine w_cVi (rest := []) E S hl hM (kX6_digitOf l base D dA F v36 x2) mcX6_digitOf ⟨by decide, rfl, wd_552, wd_553, wd_554⟩ hfr hlo (by decide) rfl (Nat.le_of_ble_eq_true rfl) dX8_sign_40 rfl (fun v40 σ H locs S hM => ?_)
        exact w_iret E S hM hr hk dX8_sign_43
      · replace hM := x_okT hM c22
        refine w_aload_n E hl 0 dX8_sign_25 rfl ?_
        refine w_rR E S hM lk_8_165 rfl dX8_sign_26 (fun v26 hM => ?_)
        refine w_rI E S hM lk_8_189 rfl dX8_sign_29 (fun v29 hM => ?_)
        refine lv_goto (tgt := 43) E.1 E.2.1 dX8_sign_32 (by decide) ?_
        exact w_iret E S hM hr hk dX8_sign_43
theorem dX8_oneIf_0 : decode cX8_oneIf 0 = .ok (.iload_n 0, 1) := by decide +kernel
theorem dX8_oneIf_1 : decode cX8_oneIf 1 = .ok (.ifCond .eq 7, 3) := by decide +kernel
theorem dX8_oneIf_4 : decode cX8_oneIf 4 = .ok (.iconst 1, 1) := by decide +kernel
theorem dX8_oneIf_5 : decode cX8_oneIf 5 = .ok (.goto 4, 3) := by decide +kernel
theorem dX8_oneIf_8 : decode cX8_oneIf 8 = .ok (.iconst 0, 1) := by decide +kernel
theorem dX8_oneIf_9 : decode cX8_oneIf 9 = .ok (.ireturn, 1) := by decide +kernel
theorem mcX8_oneIf : x_mc yX8_oneIf cX8_oneIf 1 (some .int) 1 := ⟨wd_562, wd_1, by decide +kernel⟩
set_option maxHeartbeats 4000000 in
set_option maxRecDepth 100000 in
theorem kX8_oneIf (l : Launch) (base : Nat) (D : va_G) (dA : Nat → ClassId) (F : Nat) (x0 : Int32) : x_Met l base D dA yX8_oneIf cX8_oneIf 1 (some .int) 0 0 [.int x0] (mX8_oneIf F x0) (fun x => some (.int x)) := by
  refine x_Met.of [(0, .inl x0)] (by decide) (Nat.le_of_ble_eq_true rfl) rfl rfl ?_
  intro p e R s m args below meth c σ a τ ls hfr hlo E hr hk hn S hM hl
  have E : x_E p s m args c cX8_oneIf 1 "WireMoney" D dA := E
  unfold mX8_oneIf at hM
  refine w_iload_n E hl 0 dX8_oneIf_0 rfl ?_
  refine lv_if_eq (tgt := 8) E.1 E.2.1 dX8_oneIf_1 (by decide) (fun c1 => ?_) (fun c1 => ?_)
  · replace hM := x_okT hM c1
    refine lv_iconst (v := (0 : Int32)) E.1 E.2.1 dX8_oneIf_8 (by decide) ?_
    exact w_iret E S hM hr hk dX8_oneIf_9
  · replace hM := x_okF hM c1
    refine lv_iconst (v := (1 : Int32)) E.1 E.2.1 dX8_oneIf_4 (by decide) ?_
    refine lv_goto (tgt := 9) E.1 E.2.1 dX8_oneIf_5 (by decide) ?_
    exact w_iret E S hM hr hk dX8_oneIf_9
theorem dX8_message_0 : decode cX8_message 0 = .ok (.aload_n 0, 1) := by decide +kernel
theorem dX8_message_1 : decode cX8_message 1 = .ok (.iload_n 1, 1) := by decide +kernel
theorem dX8_message_2 : decode cX8_message 2 = .ok (.invokevirtual 161, 3) := by decide +kernel
theorem dX8_message_5 : decode cX8_message 5 = .ok (.astore_n 3, 1) := by decide +kernel
theorem dX8_message_6 : decode cX8_message 6 = .ok (.aload_n 3, 1) := by decide +kernel
theorem dX8_message_7 : decode cX8_message 7 = .ok (.ifnonnull 5, 3) := by decide +kernel
theorem dX8_message_10 : decode cX8_message 10 = .ok (.iconst (-1), 1) := by decide +kernel
theorem dX8_message_11 : decode cX8_message 11 = .ok (.ireturn, 1) := by decide +kernel
theorem dX8_message_12 : decode cX8_message 12 = .ok (.iload_n 2, 1) := by decide +kernel
theorem dX8_message_13 : decode cX8_message 13 = .ok (.tableswitch 104 0 6 #[43, 48, 56, 64, 72, 91, 96], 43) := by decide +kernel
theorem dX8_message_56 : decode cX8_message 56 = .ok (.aload_n 3, 1) := by decide +kernel
theorem dX8_message_57 : decode cX8_message 57 = .ok (.getfield 195, 3) := by decide +kernel
theorem dX8_message_60 : decode cX8_message 60 = .ok (.ireturn, 1) := by decide +kernel
theorem dX8_message_61 : decode cX8_message 61 = .ok (.aload_n 3, 1) := by decide +kernel
theorem dX8_message_62 : decode cX8_message 62 = .ok (.getfield 198, 3) := by decide +kernel
theorem dX8_message_65 : decode cX8_message 65 = .ok (.getfield 117, 3) := by decide +kernel
theorem dX8_message_68 : decode cX8_message 68 = .ok (.ireturn, 1) := by decide +kernel
theorem dX8_message_69 : decode cX8_message 69 = .ok (.aload_n 3, 1) := by decide +kernel
theorem dX8_message_70 : decode cX8_message 70 = .ok (.getfield 202, 3) := by decide +kernel
theorem dX8_message_73 : decode cX8_message 73 = .ok (.getfield 203, 3) := by decide +kernel
theorem dX8_message_76 : decode cX8_message 76 = .ok (.ireturn, 1) := by decide +kernel
theorem dX8_message_77 : decode cX8_message 77 = .ok (.aload_n 3, 1) := by decide +kernel
theorem dX8_message_78 : decode cX8_message 78 = .ok (.getfield 204, 3) := by decide +kernel
theorem dX8_message_81 : decode cX8_message 81 = .ok (.getfield 203, 3) := by decide +kernel
theorem dX8_message_84 : decode cX8_message 84 = .ok (.ireturn, 1) := by decide +kernel
theorem dX8_message_85 : decode cX8_message 85 = .ok (.aload_n 3, 1) := by decide +kernel
theorem dX8_message_86 : decode cX8_message 86 = .ok (.getfield 205, 3) := by decide +kernel
theorem dX8_message_89 : decode cX8_message 89 = .ok (.ifnonnull 7, 3) := by decide +kernel
theorem dX8_message_92 : decode cX8_message 92 = .ok (.iconst (-1), 1) := by decide +kernel
theorem dX8_message_93 : decode cX8_message 93 = .ok (.goto 10, 3) := by decide +kernel
theorem dX8_message_96 : decode cX8_message 96 = .ok (.aload_n 3, 1) := by decide +kernel
theorem dX8_message_97 : decode cX8_message 97 = .ok (.getfield 205, 3) := by decide +kernel
theorem dX8_message_100 : decode cX8_message 100 = .ok (.getfield 203, 3) := by decide +kernel
theorem dX8_message_103 : decode cX8_message 103 = .ok (.ireturn, 1) := by decide +kernel
theorem dX8_message_104 : decode cX8_message 104 = .ok (.aload_n 3, 1) := by decide +kernel
theorem dX8_message_105 : decode cX8_message 105 = .ok (.getfield 208, 3) := by decide +kernel
theorem dX8_message_108 : decode cX8_message 108 = .ok (.ireturn, 1) := by decide +kernel
theorem dX8_message_109 : decode cX8_message 109 = .ok (.aload_n 3, 1) := by decide +kernel
theorem dX8_message_110 : decode cX8_message 110 = .ok (.getfield 211, 3) := by decide +kernel
theorem dX8_message_113 : decode cX8_message 113 = .ok (.invokestatic 214, 3) := by decide +kernel
theorem dX8_message_116 : decode cX8_message 116 = .ok (.ireturn, 1) := by decide +kernel
theorem dX8_message_117 : decode cX8_message 117 = .ok (.iconst (-1), 1) := by decide +kernel
theorem dX8_message_118 : decode cX8_message 118 = .ok (.ireturn, 1) := by decide +kernel
theorem mcX8_message : x_mc yX8_message cX8_message 4 (some .int) 2 := ⟨wd_559, wd_1, by decide +kernel⟩
set_option maxHeartbeats 4000000 in
set_option maxRecDepth 100000 in
theorem kX8_message (l : Launch) (base : Nat) (D : va_G) (dA : Nat → ClassId) (F : Nat) (r0 : Option Nat) (x1 : Int32) (x2 : Int32) : x_Met l base D dA yX8_message cX8_message 4 (some .int) 1 21 [va_rf r0, .int x1, .int x2] (mX8_message F r0 x1 x2) (fun x => some (.int x)) := by
  refine x_Met.of [(0, .inr (.inl r0)), (1, .inl x1), (2, .inl x2)] (by decide) (Nat.le_of_ble_eq_true rfl) rfl rfl ?_
  intro p e R s m args below meth c σ a τ ls hfr hlo E hr hk hn S hM hl
  have E : x_E p s m args c cX8_message 4 "WireMoney" D dA := E
  unfold mX8_message at hM
  refine w_aload_n E hl 0 dX8_message_0 rfl ?_
  refine w_iload_n E hl 1 dX8_message_1 rfl ?_
  refine w_cVq (rest := []) E S hl hM (kX8_findMessage l base D dA F r0 x1) mcX8_findMessage ⟨by decide, rfl, wd_479, wd_481, wp_11⟩ hfr hlo (by decide) rfl (Nat.le_of_ble_eq_true rfl) dX8_message_2 rfl (fun v2 σ H locs S hM => ?_)
  refine w_astore_n (lt' := [(3, .inr (.inl v2)), (0, .inr (.inl r0)), (1, .inl x1), (2, .inl x2)]) E hl dX8_message_5 (by decide) rfl (fun ls hl => ?_)
  refine w_aload_n E hl 0 dX8_message_6 rfl ?_
  refine w_ifnonnull (tgt := 12) E hM dX8_message_7 (by decide) (fun c7 hM => ?_) (fun a7 c7 hM => ?_)
  · skip
    refine lv_iconst (v := (-1 : Int32)) E.1 E.2.1 dX8_message_10 (by decide) ?_
    exact w_iret E S hM hr hk dX8_message_11
  · skip
    refine w_iload_n E hl 3 dX8_message_12 rfl ?_
    by_cases h13_0 : x2 = 0
    · replace hM := x_okT hM h13_0
      refine lv_tableIn (off := 43) (tgt := 56) E.1 E.2.1 dX8_message_13 (by rw [h13_0]; decide) (by rw [h13_0]; decide) (by rw [h13_0]; rfl) (by decide) ?_
      refine w_aload_n E hl 0 dX8_message_56 rfl ?_
      refine w_rI E S hM lk_8_195 rfl dX8_message_57 (fun v57 hM => ?_)
      exact w_iret E S hM hr hk dX8_message_60
    replace hM := x_okF hM h13_0
    by_cases h13_1 : x2 = 1
    · replace hM := x_okT hM h13_1
      refine lv_tableIn (off := 48) (tgt := 61) E.1 E.2.1 dX8_message_13 (by rw [h13_1]; decide) (by rw [h13_1]; decide) (by rw [h13_1]; rfl) (by decide) ?_
      refine w_aload_n E hl 0 dX8_message_61 rfl ?_
      refine w_rR E S hM lk_8_198 rfl dX8_message_62 (fun v62 hM => ?_)
      refine w_rI E S hM lk_8_117 rfl dX8_message_65 (fun v65 hM => ?_)
      exact w_iret E S hM hr hk dX8_message_68
    replace hM := x_okF hM h13_1
    by_cases h13_2 : x2 = 2
    · replace hM := x_okT hM h13_2
      refine lv_tableIn (off := 56) (tgt := 69) E.1 E.2.1 dX8_message_13 (by rw [h13_2]; decide) (by rw [h13_2]; decide) (by rw [h13_2]; rfl) (by decide) ?_
      refine w_aload_n E hl 0 dX8_message_69 rfl ?_
      refine w_rR E S hM lk_8_202 rfl dX8_message_70 (fun v70 hM => ?_)
      refine w_rI E S hM lk_8_203 rfl dX8_message_73 (fun v73 hM => ?_)
      exact w_iret E S hM hr hk dX8_message_76
    replace hM := x_okF hM h13_2
    by_cases h13_3 : x2 = 3
    · replace hM := x_okT hM h13_3
      refine lv_tableIn (off := 64) (tgt := 77) E.1 E.2.1 dX8_message_13 (by rw [h13_3]; decide) (by rw [h13_3]; decide) (by rw [h13_3]; rfl) (by decide) ?_
      refine w_aload_n E hl 0 dX8_message_77 rfl ?_
      refine w_rR E S hM lk_8_204 rfl dX8_message_78 (fun v78 hM => ?_)
      refine w_rI E S hM lk_8_203 rfl dX8_message_81 (fun v81 hM => ?_)
      exact w_iret E S hM hr hk dX8_message_84
    replace hM := x_okF hM h13_3
    by_cases h13_4 : x2 = 4
    · replace hM := x_okT hM h13_4
      refine lv_tableIn (off := 72) (tgt := 85) E.1 E.2.1 dX8_message_13 (by rw [h13_4]; decide) (by rw [h13_4]; decide) (by rw [h13_4]; rfl) (by decide) ?_
      refine w_aload_n E hl 0 dX8_message_85 rfl ?_
      refine w_rR E S hM lk_8_205 rfl dX8_message_86 (fun v86 hM => ?_)
      refine w_ifnonnull (tgt := 96) E hM dX8_message_89 (by decide) (fun c89 hM => ?_) (fun a89 c89 hM => ?_)
      · skip
        refine lv_iconst (v := (-1 : Int32)) E.1 E.2.1 dX8_message_92 (by decide) ?_
        refine lv_goto (tgt := 103) E.1 E.2.1 dX8_message_93 (by decide) ?_
        exact w_iret E S hM hr hk dX8_message_103
      · skip
        refine w_aload_n E hl 0 dX8_message_96 rfl ?_
        refine w_rR E S hM lk_8_205 rfl dX8_message_97 (fun v97 hM => ?_)
        refine w_rI E S hM lk_8_203 rfl dX8_message_100 (fun v100 hM => ?_)
        exact w_iret E S hM hr hk dX8_message_103
    replace hM := x_okF hM h13_4
    by_cases h13_5 : x2 = 5
    · replace hM := x_okT hM h13_5
      refine lv_tableIn (off := 91) (tgt := 104) E.1 E.2.1 dX8_message_13 (by rw [h13_5]; decide) (by rw [h13_5]; decide) (by rw [h13_5]; rfl) (by decide) ?_
      refine w_aload_n E hl 0 dX8_message_104 rfl ?_
      refine w_rI E S hM lk_8_208 rfl dX8_message_105 (fun v105 hM => ?_)
      exact w_iret E S hM hr hk dX8_message_108
    replace hM := x_okF hM h13_5
    by_cases h13_6 : x2 = 6
    · replace hM := x_okT hM h13_6
      refine lv_tableIn (off := 96) (tgt := 109) E.1 E.2.1 dX8_message_13 (by rw [h13_6]; decide) (by rw [h13_6]; decide) (by rw [h13_6]; rfl) (by decide) ?_
      refine w_aload_n E hl 0 dX8_message_109 rfl ?_
      refine w_rI E S hM lk_8_211 rfl dX8_message_110 (fun v110 hM => ?_)
      refine w_cSi (rest := []) E S hl hM (kX8_oneIf l base D dA F v110) mcX8_oneIf ⟨wd_560, wd_561⟩ hfr hlo (by decide) rfl (Nat.le_of_ble_eq_true rfl) dX8_message_113 rfl (fun v113 σ H locs S hM => ?_)
      exact w_iret E S hM hr hk dX8_message_116
    replace hM := x_okF hM h13_6
    have n13_0 := lv_neT (a := 0) h13_0 (by decide)
    have n13_1 := lv_neT (a := 1) h13_1 (by decide)
    have n13_2 := lv_neT (a := 2) h13_2 (by decide)
    have n13_3 := lv_neT (a := 3) h13_3 (by decide)
    have n13_4 := lv_neT (a := 4) h13_4 (by decide)
    have n13_5 := lv_neT (a := 5) h13_5 (by decide)
    have n13_6 := lv_neT (a := 6) h13_6 (by decide)
    refine lv_tableOut (tgt := 117) E.1 E.2.1 dX8_message_13 (by omega) (by decide) ?_
    refine lv_iconst (v := (-1 : Int32)) E.1 E.2.1 dX8_message_117 (by decide) ?_
    exact w_iret E S hM hr hk dX8_message_118
theorem dX8_told_0 : decode cX8_told 0 = .ok (.aload_n 0, 1) := by decide +kernel
theorem dX8_told_1 : decode cX8_told 1 = .ok (.iload_n 1, 1) := by decide +kernel
theorem dX8_told_2 : decode cX8_told 2 = .ok (.invokevirtual 120, 3) := by decide +kernel
theorem dX8_told_5 : decode cX8_told 5 = .ok (.astore_n 3, 1) := by decide +kernel
theorem dX8_told_6 : decode cX8_told 6 = .ok (.aload_n 3, 1) := by decide +kernel
theorem dX8_told_7 : decode cX8_told 7 = .ok (.ifnonnull 5, 3) := by decide +kernel
theorem dX8_told_10 : decode cX8_told 10 = .ok (.iconst (-1), 1) := by decide +kernel
theorem dX8_told_11 : decode cX8_told 11 = .ok (.ireturn, 1) := by decide +kernel
theorem dX8_told_12 : decode cX8_told 12 = .ok (.iload_n 2, 1) := by decide +kernel
theorem dX8_told_13 : decode cX8_told 13 = .ok (.tableswitch 123 0 9 #[55, 63, 71, 76, 81, 89, 97, 105, 113, 118], 55) := by decide +kernel
theorem dX8_told_68 : decode cX8_told 68 = .ok (.aload_n 3, 1) := by decide +kernel
theorem dX8_told_69 : decode cX8_told 69 = .ok (.getfield 128, 3) := by decide +kernel
theorem dX8_told_72 : decode cX8_told 72 = .ok (.getfield 203, 3) := by decide +kernel
theorem dX8_told_75 : decode cX8_told 75 = .ok (.ireturn, 1) := by decide +kernel
theorem dX8_told_76 : decode cX8_told 76 = .ok (.aload_n 3, 1) := by decide +kernel
theorem dX8_told_77 : decode cX8_told 77 = .ok (.getfield 132, 3) := by decide +kernel
theorem dX8_told_80 : decode cX8_told 80 = .ok (.getfield 203, 3) := by decide +kernel
theorem dX8_told_83 : decode cX8_told 83 = .ok (.ireturn, 1) := by decide +kernel
theorem dX8_told_84 : decode cX8_told 84 = .ok (.aload_n 3, 1) := by decide +kernel
theorem dX8_told_85 : decode cX8_told 85 = .ok (.getfield 150, 3) := by decide +kernel
theorem dX8_told_88 : decode cX8_told 88 = .ok (.ireturn, 1) := by decide +kernel
theorem dX8_told_89 : decode cX8_told 89 = .ok (.aload_n 3, 1) := by decide +kernel
theorem dX8_told_90 : decode cX8_told 90 = .ok (.getfield 104, 3) := by decide +kernel
theorem dX8_told_93 : decode cX8_told 93 = .ok (.ireturn, 1) := by decide +kernel
theorem dX8_told_94 : decode cX8_told 94 = .ok (.aload_n 3, 1) := by decide +kernel
theorem dX8_told_95 : decode cX8_told 95 = .ok (.getfield 138, 3) := by decide +kernel
theorem dX8_told_98 : decode cX8_told 98 = .ok (.invokestatic 214, 3) := by decide +kernel
theorem dX8_told_101 : decode cX8_told 101 = .ok (.ireturn, 1) := by decide +kernel
theorem dX8_told_102 : decode cX8_told 102 = .ok (.aload_n 3, 1) := by decide +kernel
theorem dX8_told_103 : decode cX8_told 103 = .ok (.getfield 141, 3) := by decide +kernel
theorem dX8_told_106 : decode cX8_told 106 = .ok (.invokestatic 214, 3) := by decide +kernel
theorem dX8_told_109 : decode cX8_told 109 = .ok (.ireturn, 1) := by decide +kernel
theorem dX8_told_110 : decode cX8_told 110 = .ok (.aload_n 3, 1) := by decide +kernel
theorem dX8_told_111 : decode cX8_told 111 = .ok (.getfield 144, 3) := by decide +kernel
theorem dX8_told_114 : decode cX8_told 114 = .ok (.invokestatic 214, 3) := by decide +kernel
theorem dX8_told_117 : decode cX8_told 117 = .ok (.ireturn, 1) := by decide +kernel
theorem dX8_told_118 : decode cX8_told 118 = .ok (.aload_n 3, 1) := by decide +kernel
theorem dX8_told_119 : decode cX8_told 119 = .ok (.getfield 218, 3) := by decide +kernel
theorem dX8_told_122 : decode cX8_told 122 = .ok (.invokestatic 214, 3) := by decide +kernel
theorem dX8_told_125 : decode cX8_told 125 = .ok (.ireturn, 1) := by decide +kernel
theorem dX8_told_126 : decode cX8_told 126 = .ok (.aload_n 3, 1) := by decide +kernel
theorem dX8_told_127 : decode cX8_told 127 = .ok (.getfield 221, 3) := by decide +kernel
theorem dX8_told_130 : decode cX8_told 130 = .ok (.ireturn, 1) := by decide +kernel
theorem dX8_told_131 : decode cX8_told 131 = .ok (.aload_n 3, 1) := by decide +kernel
theorem dX8_told_132 : decode cX8_told 132 = .ok (.getfield 224, 3) := by decide +kernel
theorem dX8_told_135 : decode cX8_told 135 = .ok (.ireturn, 1) := by decide +kernel
theorem dX8_told_136 : decode cX8_told 136 = .ok (.iconst (-1), 1) := by decide +kernel
theorem dX8_told_137 : decode cX8_told 137 = .ok (.ireturn, 1) := by decide +kernel
theorem mcX8_told : x_mc yX8_told cX8_told 4 (some .int) 2 := ⟨wd_566, wd_1, by decide +kernel⟩
set_option maxHeartbeats 4000000 in
set_option maxRecDepth 100000 in
theorem kX8_told (l : Launch) (base : Nat) (D : va_G) (dA : Nat → ClassId) (F : Nat) (r0 : Option Nat) (x1 : Int32) (x2 : Int32) : x_Met l base D dA yX8_told cX8_told 4 (some .int) 1 21 [va_rf r0, .int x1, .int x2] (mX8_told F r0 x1 x2) (fun x => some (.int x)) := by
  refine x_Met.of [(0, .inr (.inl r0)), (1, .inl x1), (2, .inl x2)] (by decide) (Nat.le_of_ble_eq_true rfl) rfl rfl ?_
  intro p e R s m args below meth c σ a τ ls hfr hlo E hr hk hn S hM hl
  have E : x_E p s m args c cX8_told 4 "WireMoney" D dA := E
  unfold mX8_told at hM
  refine w_aload_n E hl 0 dX8_told_0 rfl ?_
  refine w_iload_n E hl 1 dX8_told_1 rfl ?_
  refine w_cVq (rest := []) E S hl hM (kX8_findOrder l base D dA F r0 x1) mcX8_findOrder ⟨by decide, rfl, wd_456, wd_458, wp_9⟩ hfr hlo (by decide) rfl (Nat.le_of_ble_eq_true rfl) dX8_told_2 rfl (fun v2 σ H locs S hM => ?_)
  refine w_astore_n (lt' := [(3, .inr (.inl v2)), (0, .inr (.inl r0)), (1, .inl x1), (2, .inl x2)]) E hl dX8_told_5 (by decide) rfl (fun ls hl => ?_)
  refine w_aload_n E hl 0 dX8_told_6 rfl ?_
  refine w_ifnonnull (tgt := 12) E hM dX8_told_7 (by decide) (fun c7 hM => ?_) (fun a7 c7 hM => ?_)
  · skip
    refine lv_iconst (v := (-1 : Int32)) E.1 E.2.1 dX8_told_10 (by decide) ?_
    exact w_iret E S hM hr hk dX8_told_11
  · skip
    refine w_iload_n E hl 3 dX8_told_12 rfl ?_
    by_cases h13_0 : x2 = 0
    · replace hM := x_okT hM h13_0
      refine lv_tableIn (off := 55) (tgt := 68) E.1 E.2.1 dX8_told_13 (by rw [h13_0]; decide) (by rw [h13_0]; decide) (by rw [h13_0]; rfl) (by decide) ?_
      refine w_aload_n E hl 0 dX8_told_68 rfl ?_
      refine w_rR E S hM lk_8_128 rfl dX8_told_69 (fun v69 hM => ?_)
      refine w_rI E S hM lk_8_203 rfl dX8_told_72 (fun v72 hM => ?_)
      exact w_iret E S hM hr hk dX8_told_75
    replace hM := x_okF hM h13_0
    by_cases h13_1 : x2 = 1
    · replace hM := x_okT hM h13_1
      refine lv_tableIn (off := 63) (tgt := 76) E.1 E.2.1 dX8_told_13 (by rw [h13_1]; decide) (by rw [h13_1]; decide) (by rw [h13_1]; rfl) (by decide) ?_
      refine w_aload_n E hl 0 dX8_told_76 rfl ?_
      refine w_rR E S hM lk_8_132 rfl dX8_told_77 (fun v77 hM => ?_)
      refine w_rI E S hM lk_8_203 rfl dX8_told_80 (fun v80 hM => ?_)
      exact w_iret E S hM hr hk dX8_told_83
    replace hM := x_okF hM h13_1
    by_cases h13_2 : x2 = 2
    · replace hM := x_okT hM h13_2
      refine lv_tableIn (off := 71) (tgt := 84) E.1 E.2.1 dX8_told_13 (by rw [h13_2]; decide) (by rw [h13_2]; decide) (by rw [h13_2]; rfl) (by decide) ?_
      refine w_aload_n E hl 0 dX8_told_84 rfl ?_
      refine w_rI E S hM lk_8_150 rfl dX8_told_85 (fun v85 hM => ?_)
      exact w_iret E S hM hr hk dX8_told_88
    replace hM := x_okF hM h13_2
    by_cases h13_3 : x2 = 3
    · replace hM := x_okT hM h13_3
      refine lv_tableIn (off := 76) (tgt := 89) E.1 E.2.1 dX8_told_13 (by rw [h13_3]; decide) (by rw [h13_3]; decide) (by rw [h13_3]; rfl) (by decide) ?_
      refine w_aload_n E hl 0 dX8_told_89 rfl ?_
      refine w_rI E S hM lk_8_104 rfl dX8_told_90 (fun v90 hM => ?_)
      exact w_iret E S hM hr hk dX8_told_93
    replace hM := x_okF hM h13_3
    by_cases h13_4 : x2 = 4
    · replace hM := x_okT hM h13_4
      refine lv_tableIn (off := 81) (tgt := 94) E.1 E.2.1 dX8_told_13 (by rw [h13_4]; decide) (by rw [h13_4]; decide) (by rw [h13_4]; rfl) (by decide) ?_
      refine w_aload_n E hl 0 dX8_told_94 rfl ?_
      refine w_rI E S hM lk_8_138 rfl dX8_told_95 (fun v95 hM => ?_)
      refine w_cSi (rest := []) E S hl hM (kX8_oneIf l base D dA F v95) mcX8_oneIf ⟨wd_560, wd_561⟩ hfr hlo (by decide) rfl (Nat.le_of_ble_eq_true rfl) dX8_told_98 rfl (fun v98 σ H locs S hM => ?_)
      exact w_iret E S hM hr hk dX8_told_101
    replace hM := x_okF hM h13_4
    by_cases h13_5 : x2 = 5
    · replace hM := x_okT hM h13_5
      refine lv_tableIn (off := 89) (tgt := 102) E.1 E.2.1 dX8_told_13 (by rw [h13_5]; decide) (by rw [h13_5]; decide) (by rw [h13_5]; rfl) (by decide) ?_
      refine w_aload_n E hl 0 dX8_told_102 rfl ?_
      refine w_rI E S hM lk_8_141 rfl dX8_told_103 (fun v103 hM => ?_)
      refine w_cSi (rest := []) E S hl hM (kX8_oneIf l base D dA F v103) mcX8_oneIf ⟨wd_560, wd_561⟩ hfr hlo (by decide) rfl (Nat.le_of_ble_eq_true rfl) dX8_told_106 rfl (fun v106 σ H locs S hM => ?_)
      exact w_iret E S hM hr hk dX8_told_109
    replace hM := x_okF hM h13_5
    by_cases h13_6 : x2 = 6
    · replace hM := x_okT hM h13_6
      refine lv_tableIn (off := 97) (tgt := 110) E.1 E.2.1 dX8_told_13 (by rw [h13_6]; decide) (by rw [h13_6]; decide) (by rw [h13_6]; rfl) (by decide) ?_
      refine w_aload_n E hl 0 dX8_told_110 rfl ?_
      refine w_rI E S hM lk_8_144 rfl dX8_told_111 (fun v111 hM => ?_)
      refine w_cSi (rest := []) E S hl hM (kX8_oneIf l base D dA F v111) mcX8_oneIf ⟨wd_560, wd_561⟩ hfr hlo (by decide) rfl (Nat.le_of_ble_eq_true rfl) dX8_told_114 rfl (fun v114 σ H locs S hM => ?_)
      exact w_iret E S hM hr hk dX8_told_117
    replace hM := x_okF hM h13_6
    by_cases h13_7 : x2 = 7
    · replace hM := x_okT hM h13_7
      refine lv_tableIn (off := 105) (tgt := 118) E.1 E.2.1 dX8_told_13 (by rw [h13_7]; decide) (by rw [h13_7]; decide) (by rw [h13_7]; rfl) (by decide) ?_
      refine w_aload_n E hl 0 dX8_told_118 rfl ?_
      refine w_rI E S hM lk_8_218 rfl dX8_told_119 (fun v119 hM => ?_)
      refine w_cSi (rest := []) E S hl hM (kX8_oneIf l base D dA F v119) mcX8_oneIf ⟨wd_560, wd_561⟩ hfr hlo (by decide) rfl (Nat.le_of_ble_eq_true rfl) dX8_told_122 rfl (fun v122 σ H locs S hM => ?_)
      exact w_iret E S hM hr hk dX8_told_125
    replace hM := x_okF hM h13_7
    by_cases h13_8 : x2 = 8
    · replace hM := x_okT hM h13_8
      refine lv_tableIn (off := 113) (tgt := 126) E.1 E.2.1 dX8_told_13 (by rw [h13_8]; decide) (by rw [h13_8]; decide) (by rw [h13_8]; rfl) (by decide) ?_
      refine w_aload_n E hl 0 dX8_told_126 rfl ?_
      refine w_rI E S hM lk_8_221 rfl dX8_told_127 (fun v127 hM => ?_)
      exact w_iret E S hM hr hk dX8_told_130
    replace hM := x_okF hM h13_8
    by_cases h13_9 : x2 = 9
    · replace hM := x_okT hM h13_9
      refine lv_tableIn (off := 118) (tgt := 131) E.1 E.2.1 dX8_told_13 (by rw [h13_9]; decide) (by rw [h13_9]; decide) (by rw [h13_9]; rfl) (by decide) ?_
      refine w_aload_n E hl 0 dX8_told_131 rfl ?_
      refine w_rI E S hM lk_8_224 rfl dX8_told_132 (fun v132 hM => ?_)
      exact w_iret E S hM hr hk dX8_told_135
    replace hM := x_okF hM h13_9
    have n13_0 := lv_neT (a := 0) h13_0 (by decide)
    have n13_1 := lv_neT (a := 1) h13_1 (by decide)
    have n13_2 := lv_neT (a := 2) h13_2 (by decide)
    have n13_3 := lv_neT (a := 3) h13_3 (by decide)
    have n13_4 := lv_neT (a := 4) h13_4 (by decide)
    have n13_5 := lv_neT (a := 5) h13_5 (by decide)
    have n13_6 := lv_neT (a := 6) h13_6 (by decide)
    have n13_7 := lv_neT (a := 7) h13_7 (by decide)
    have n13_8 := lv_neT (a := 8) h13_8 (by decide)
    have n13_9 := lv_neT (a := 9) h13_9 (by decide)
    refine lv_tableOut (tgt := 136) E.1 E.2.1 dX8_told_13 (by omega) (by decide) ?_
    refine lv_iconst (v := (-1 : Int32)) E.1 E.2.1 dX8_told_136 (by decide) ?_
    exact w_iret E S hM hr hk dX8_told_137
theorem dX8_awaitedAt_0 : decode cX8_awaitedAt 0 = .ok (.iconst 0, 1) := by decide +kernel
theorem dX8_awaitedAt_1 : decode cX8_awaitedAt 1 = .ok (.istore_n 2, 1) := by decide +kernel
theorem dX8_awaitedAt_2 : decode cX8_awaitedAt 2 = .ok (.iconst 0, 1) := by decide +kernel
theorem dX8_awaitedAt_3 : decode cX8_awaitedAt 3 = .ok (.istore_n 3, 1) := by decide +kernel
theorem dX8_awaitedAt_4 : decode cX8_awaitedAt 4 = .ok (.iload_n 3, 1) := by decide +kernel
theorem dX8_awaitedAt_5 : decode cX8_awaitedAt 5 = .ok (.aload_n 0, 1) := by decide +kernel
theorem dX8_awaitedAt_6 : decode cX8_awaitedAt 6 = .ok (.getfield 94, 3) := by decide +kernel
theorem dX8_awaitedAt_9 : decode cX8_awaitedAt 9 = .ok (.if_icmp .ge 46, 3) := by decide +kernel
theorem dX8_awaitedAt_12 : decode cX8_awaitedAt 12 = .ok (.aload_n 0, 1) := by decide +kernel
theorem dX8_awaitedAt_13 : decode cX8_awaitedAt 13 = .ok (.iload_n 3, 1) := by decide +kernel
theorem dX8_awaitedAt_14 : decode cX8_awaitedAt 14 = .ok (.invokevirtual 120, 3) := by decide +kernel
theorem dX8_awaitedAt_17 : decode cX8_awaitedAt 17 = .ok (.astore 4, 2) := by decide +kernel
theorem dX8_awaitedAt_19 : decode cX8_awaitedAt 19 = .ok (.aload 4, 2) := by decide +kernel
theorem dX8_awaitedAt_21 : decode cX8_awaitedAt 21 = .ok (.ifnull 28, 3) := by decide +kernel
theorem dX8_awaitedAt_24 : decode cX8_awaitedAt 24 = .ok (.aload 4, 2) := by decide +kernel
theorem dX8_awaitedAt_26 : decode cX8_awaitedAt 26 = .ok (.getfield 132, 3) := by decide +kernel
theorem dX8_awaitedAt_29 : decode cX8_awaitedAt 29 = .ok (.aload_n 1, 1) := by decide +kernel
theorem dX8_awaitedAt_30 : decode cX8_awaitedAt 30 = .ok (.if_acmp .ne 19, 3) := by decide +kernel
theorem dX8_awaitedAt_33 : decode cX8_awaitedAt 33 = .ok (.aload 4, 2) := by decide +kernel
theorem dX8_awaitedAt_35 : decode cX8_awaitedAt 35 = .ok (.invokevirtual 256, 3) := by decide +kernel
theorem dX8_awaitedAt_38 : decode cX8_awaitedAt 38 = .ok (.ifCond .eq 11, 3) := by decide +kernel
theorem dX8_awaitedAt_41 : decode cX8_awaitedAt 41 = .ok (.iload_n 2, 1) := by decide +kernel
theorem dX8_awaitedAt_42 : decode cX8_awaitedAt 42 = .ok (.aload 4, 2) := by decide +kernel
theorem dX8_awaitedAt_44 : decode cX8_awaitedAt 44 = .ok (.getfield 150, 3) := by decide +kernel
theorem dX8_awaitedAt_47 : decode cX8_awaitedAt 47 = .ok (.iadd, 1) := by decide +kernel
theorem dX8_awaitedAt_48 : decode cX8_awaitedAt 48 = .ok (.istore_n 2, 1) := by decide +kernel
theorem dX8_awaitedAt_49 : decode cX8_awaitedAt 49 = .ok (.iinc 3 1, 3) := by decide +kernel
theorem dX8_awaitedAt_52 : decode cX8_awaitedAt 52 = .ok (.goto (-48), 3) := by decide +kernel
theorem dX8_awaitedAt_55 : decode cX8_awaitedAt 55 = .ok (.iload_n 2, 1) := by decide +kernel
theorem dX8_awaitedAt_56 : decode cX8_awaitedAt 56 = .ok (.ireturn, 1) := by decide +kernel
set_option maxHeartbeats 4000000 in
set_option maxRecDepth 100000 in
theorem bX8_awaitedAt_4 {p : Program} {l : Launch} {e : Env} {R : Room} {s : State} {m : MethodId} {args : Array Value} {below : List Frame} {meth : Method} {c : Code} {base : Nat} {D : va_G} {dA : Nat → ClassId} {σ0 : PH} {z : Int32 × PH} {F : Nat} (E : x_E p s m args c cX8_awaitedAt 5 "WireMoney" D dA) (hr : meth.sig.returnType = (some .int)) (hk : meth.locks = false) (hfr : R.frames = 1) (hlo : R.locals = 21) : ∀ (n : Nat) (y0 : Option Nat) (y1 : Option Nat) (y2 : Int32) (y3 : Int32) (σ : PH) (H : Heap) (locs : List Loc) (ls : Array Slot), x_S base D dA R s σ0 z.2 σ H locs → x_rn (mX8_awaitedAt_4 F n y0 y1 y2 y3) σ = some z → x_lv ls 5 [(0, .inr (.inl y0)), (1, .inr (.inl y1)), (2, .inl y2), (3, .inl y3)] → W p l e R s m args below meth c H locs (x_N σ - x_N σ0) (x_U σ - x_U σ0) (x_end below args s base D dA (fun x => some (.int x)) σ0 z) (F0 m 4 ls []) := by
  intro n
  induction n with
  | zero =>
    intro y0 y1 y2 y3 σ H locs ls S hM hl
    cases hM
  | succ n ih =>
    intro y0 y1 y2 y3 σ H locs ls S hM hl
    rw [mX8_awaitedAt_4] at hM
    refine w_iload_n E hl 3 dX8_awaitedAt_4 rfl ?_
    refine w_aload_n E hl 0 dX8_awaitedAt_5 rfl ?_
    refine w_rI E S hM lk_8_94 rfl dX8_awaitedAt_6 (fun v6 hM => ?_)
    refine lv_icmp_ge (tgt := 55) E.1 E.2.1 dX8_awaitedAt_9 (by decide) (fun c9 => ?_) (fun c9 => ?_)
    · replace hM := x_okT hM c9
      refine w_iload_n E hl 2 dX8_awaitedAt_55 rfl ?_
      exact w_iret E S hM hr hk dX8_awaitedAt_56
    · replace hM := x_okF hM c9
      refine w_aload_n E hl 0 dX8_awaitedAt_12 rfl ?_
      refine w_iload_n E hl 3 dX8_awaitedAt_13 rfl ?_
      refine w_cVq (rest := []) E S hl hM (kX8_findOrder l base D dA F y0 y3) mcX8_findOrder ⟨by decide, rfl, wd_456, wd_458, wp_9⟩ hfr hlo (by decide) rfl (Nat.le_of_ble_eq_true rfl) dX8_awaitedAt_14 rfl (fun v14 σ H locs S hM => ?_)
      refine w_astore (lt' := [(4, .inr (.inl v14)), (0, .inr (.inl y0)), (1, .inr (.inl y1)), (2, .inl y2), (3, .inl y3)]) E hl dX8_awaitedAt_17 (by decide) rfl (fun ls hl => ?_)
      refine w_aload E hl 0 dX8_awaitedAt_19 rfl ?_
      refine w_ifnull (tgt := 49) E hM dX8_awaitedAt_21 (by decide) (fun c21 hM => ?_) (fun a21 c21 hM => ?_)
      · skip
        refine w_iincN (ltf := fun v49 => [(3, .inl v49), (4, .inr (.inl v14)), (0, .inr (.inl y0)), (1, .inr (.inl y1)), (2, .inl y2)]) E hl 4 hM dX8_awaitedAt_49 rfl (by decide) (by decide) (fun _ => rfl) (fun v49 ls hM hl => ?_)
        refine lv_goto (tgt := 4) E.1 E.2.1 dX8_awaitedAt_52 (by decide) ?_
        exact ih y0 y1 y2 v49 _ _ _ _ S hM (x_lv_sub hl [2, 3, 4, 0] rfl)
      · skip
        refine w_aload E hl 0 dX8_awaitedAt_24 rfl ?_
        refine w_rR E S hM lk_8_132 rfl dX8_awaitedAt_26 (fun v26 hM => ?_)
        refine w_aload_n E hl 2 dX8_awaitedAt_29 rfl ?_
        refine lv_acmp_ne (tgt := 49) E.1 E.2.1 dX8_awaitedAt_30 (by decide) (fun c30 => ?_) (fun c30 => ?_)
        · replace hM := x_okF hM c30
          refine w_iincN (ltf := fun v49 => [(3, .inl v49), (4, .inr (.inl v14)), (0, .inr (.inl y0)), (1, .inr (.inl y1)), (2, .inl y2)]) E hl 4 hM dX8_awaitedAt_49 rfl (by decide) (by decide) (fun _ => rfl) (fun v49 ls hM hl => ?_)
          refine lv_goto (tgt := 4) E.1 E.2.1 dX8_awaitedAt_52 (by decide) ?_
          exact ih y0 y1 y2 v49 _ _ _ _ S hM (x_lv_sub hl [2, 3, 4, 0] rfl)
        · replace hM := x_okT hM c30
          refine w_aload E hl 0 dX8_awaitedAt_33 rfl ?_
          refine w_cVi (rest := []) E S hl hM (kX4_isAwaited l base D dA F v14) mcX4_isAwaited ⟨by decide, rfl, wd_576, wd_577, wd_578⟩ hfr hlo (by decide) rfl (Nat.le_of_ble_eq_true rfl) dX8_awaitedAt_35 rfl (fun v35 σ H locs S hM => ?_)
          refine lv_if_eq (tgt := 49) E.1 E.2.1 dX8_awaitedAt_38 (by decide) (fun c38 => ?_) (fun c38 => ?_)
          · replace hM := x_okT hM c38
            refine w_iincN (ltf := fun v49 => [(3, .inl v49), (4, .inr (.inl v14)), (0, .inr (.inl y0)), (1, .inr (.inl y1)), (2, .inl y2)]) E hl 4 hM dX8_awaitedAt_49 rfl (by decide) (by decide) (fun _ => rfl) (fun v49 ls hM hl => ?_)
            refine lv_goto (tgt := 4) E.1 E.2.1 dX8_awaitedAt_52 (by decide) ?_
            exact ih y0 y1 y2 v49 _ _ _ _ S hM (x_lv_sub hl [2, 3, 4, 0] rfl)
          · replace hM := x_okF hM c38
            refine w_iload_n E hl 3 dX8_awaitedAt_41 rfl ?_
            refine w_aload E hl 0 dX8_awaitedAt_42 rfl ?_
            refine w_rI E S hM lk_8_150 rfl dX8_awaitedAt_44 (fun v44 hM => ?_)
            refine lv_iadd E.1 E.2.1 dX8_awaitedAt_47 ?_
            refine w_nm hM (fun v48 hM => ?_)
            refine w_istore_n (lt' := [(2, .inl v48), (4, .inr (.inl v14)), (0, .inr (.inl y0)), (1, .inr (.inl y1)), (3, .inl y3)]) E hl dX8_awaitedAt_48 (by decide) rfl (fun ls hl => ?_)
            refine w_iincN (ltf := fun v49 => [(3, .inl v49), (2, .inl v48), (4, .inr (.inl v14)), (0, .inr (.inl y0)), (1, .inr (.inl y1))]) E hl 4 hM dX8_awaitedAt_49 rfl (by decide) (by decide) (fun _ => rfl) (fun v49 ls hM hl => ?_)
            refine lv_goto (tgt := 4) E.1 E.2.1 dX8_awaitedAt_52 (by decide) ?_
            exact ih y0 y1 v48 v49 _ _ _ _ S hM (x_lv_sub hl [3, 4, 1, 0] rfl)
theorem mcX8_awaitedAt : x_mc yX8_awaitedAt cX8_awaitedAt 5 (some .int) 1 := ⟨wd_575, wd_1, by decide +kernel⟩
set_option maxHeartbeats 4000000 in
set_option maxRecDepth 100000 in
theorem kX8_awaitedAt (l : Launch) (base : Nat) (D : va_G) (dA : Nat → ClassId) (F : Nat) (r0 : Option Nat) (r1 : Option Nat) : x_Met l base D dA yX8_awaitedAt cX8_awaitedAt 5 (some .int) 1 21 [va_rf r0, va_rf r1] (mX8_awaitedAt F r0 r1) (fun x => some (.int x)) := by
  refine x_Met.of [(0, .inr (.inl r0)), (1, .inr (.inl r1))] (by decide) (Nat.le_of_ble_eq_true rfl) rfl rfl ?_
  intro p e R s m args below meth c σ a τ ls hfr hlo E hr hk hn S hM hl
  have E : x_E p s m args c cX8_awaitedAt 5 "WireMoney" D dA := E
  unfold mX8_awaitedAt at hM
  refine lv_iconst (v := (0 : Int32)) E.1 E.2.1 dX8_awaitedAt_0 (by decide) ?_
  refine w_istore_n (lt' := [(2, .inl (0 : Int32)), (0, .inr (.inl r0)), (1, .inr (.inl r1))]) E hl dX8_awaitedAt_1 (by decide) rfl (fun ls hl => ?_)
  refine lv_iconst (v := (0 : Int32)) E.1 E.2.1 dX8_awaitedAt_2 (by decide) ?_
  refine w_istore_n (lt' := [(3, .inl (0 : Int32)), (2, .inl (0 : Int32)), (0, .inr (.inl r0)), (1, .inr (.inl r1))]) E hl dX8_awaitedAt_3 (by decide) rfl (fun ls hl => ?_)
  exact bX8_awaitedAt_4 E hr hk hfr hlo F r0 r1 (0 : Int32) (0 : Int32) _ _ _ _ S hM (x_lv_sub hl [2, 3, 1, 0] rfl)
theorem dX8_at_0 : decode cX8_at 0 = .ok (.aload_n 0, 1) := by decide +kernel
theorem dX8_at_1 : decode cX8_at 1 = .ok (.getfield 12, 3) := by decide +kernel
theorem dX8_at_4 : decode cX8_at 4 = .ok (.iload_n 1, 1) := by decide +kernel
theorem dX8_at_5 : decode cX8_at 5 = .ok (.invokevirtual 48, 3) := by decide +kernel
theorem dX8_at_8 : decode cX8_at 8 = .ok (.astore_n 3, 1) := by decide +kernel
theorem dX8_at_9 : decode cX8_at 9 = .ok (.aload_n 3, 1) := by decide +kernel
theorem dX8_at_10 : decode cX8_at 10 = .ok (.ifnonnull 6, 3) := by decide +kernel
theorem dX8_at_13 : decode cX8_at 13 = .ok (.ldc 227, 2) := by decide +kernel
theorem dX8_at_15 : decode cX8_at 15 = .ok (.ireturn, 1) := by decide +kernel
theorem dX8_at_16 : decode cX8_at 16 = .ok (.iload_n 2, 1) := by decide +kernel
theorem dX8_at_17 : decode cX8_at 17 = .ok (.tableswitch 90 0 5 #[39, 44, 56, 71, 76, 81], 39) := by decide +kernel
theorem dX8_at_56 : decode cX8_at 56 = .ok (.aload_n 3, 1) := by decide +kernel
theorem dX8_at_57 : decode cX8_at 57 = .ok (.getfield 107, 3) := by decide +kernel
theorem dX8_at_60 : decode cX8_at 60 = .ok (.ireturn, 1) := by decide +kernel
theorem dX8_at_61 : decode cX8_at 61 = .ok (.aload_n 3, 1) := by decide +kernel
theorem dX8_at_62 : decode cX8_at 62 = .ok (.aload_n 0, 1) := by decide +kernel
theorem dX8_at_63 : decode cX8_at 63 = .ok (.getfield 60, 3) := by decide +kernel
theorem dX8_at_66 : decode cX8_at 66 = .ok (.invokevirtual 88, 3) := by decide +kernel
theorem dX8_at_69 : decode cX8_at 69 = .ok (.invokestatic 214, 3) := by decide +kernel
theorem dX8_at_72 : decode cX8_at 72 = .ok (.ireturn, 1) := by decide +kernel
theorem dX8_at_73 : decode cX8_at 73 = .ok (.iconst 0, 1) := by decide +kernel
theorem dX8_at_74 : decode cX8_at 74 = .ok (.aload_n 0, 1) := by decide +kernel
theorem dX8_at_75 : decode cX8_at 75 = .ok (.aload_n 3, 1) := by decide +kernel
theorem dX8_at_76 : decode cX8_at 76 = .ok (.invokevirtual 228, 3) := by decide +kernel
theorem dX8_at_79 : decode cX8_at 79 = .ok (.aload_n 3, 1) := by decide +kernel
theorem dX8_at_80 : decode cX8_at 80 = .ok (.getfield 107, 3) := by decide +kernel
theorem dX8_at_83 : decode cX8_at 83 = .ok (.isub, 1) := by decide +kernel
theorem dX8_at_84 : decode cX8_at 84 = .ok (.invokestatic 232, 3) := by decide +kernel
theorem dX8_at_87 : decode cX8_at 87 = .ok (.ireturn, 1) := by decide +kernel
theorem dX8_at_88 : decode cX8_at 88 = .ok (.aload_n 3, 1) := by decide +kernel
theorem dX8_at_89 : decode cX8_at 89 = .ok (.getfield 235, 3) := by decide +kernel
theorem dX8_at_92 : decode cX8_at 92 = .ok (.ireturn, 1) := by decide +kernel
theorem dX8_at_93 : decode cX8_at 93 = .ok (.aload_n 3, 1) := by decide +kernel
theorem dX8_at_94 : decode cX8_at 94 = .ok (.getfield 110, 3) := by decide +kernel
theorem dX8_at_97 : decode cX8_at 97 = .ok (.ireturn, 1) := by decide +kernel
theorem dX8_at_98 : decode cX8_at 98 = .ok (.aload_n 0, 1) := by decide +kernel
theorem dX8_at_99 : decode cX8_at 99 = .ok (.getfield 12, 3) := by decide +kernel
theorem dX8_at_102 : decode cX8_at 102 = .ok (.aload_n 3, 1) := by decide +kernel
theorem dX8_at_103 : decode cX8_at 103 = .ok (.invokevirtual 238, 3) := by decide +kernel
theorem dX8_at_106 : decode cX8_at 106 = .ok (.ireturn, 1) := by decide +kernel
theorem dX8_at_107 : decode cX8_at 107 = .ok (.ldc 227, 2) := by decide +kernel
theorem dX8_at_109 : decode cX8_at 109 = .ok (.ireturn, 1) := by decide +kernel
theorem mcX8_at : x_mc yX8_at cX8_at 4 (some .int) 2 := ⟨wd_570, wd_1, by decide +kernel⟩
set_option maxHeartbeats 4000000 in
set_option maxRecDepth 100000 in
theorem kX8_at (l : Launch) (base : Nat) (D : va_G) (dA : Nat → ClassId) (F : Nat) (r0 : Option Nat) (x1 : Int32) (x2 : Int32) : x_Met l base D dA yX8_at cX8_at 4 (some .int) 2 45 [va_rf r0, .int x1, .int x2] (mX8_at F r0 x1 x2) (fun x => some (.int x)) := by
  refine x_Met.of [(0, .inr (.inl r0)), (1, .inl x1), (2, .inl x2)] (by decide) (Nat.le_of_ble_eq_true rfl) rfl rfl ?_
  intro p e R s m args below meth c σ a τ ls hfr hlo E hr hk hn S hM hl
  have E : x_E p s m args c cX8_at 4 "WireMoney" D dA := E
  unfold mX8_at at hM
  refine w_aload_n E hl 0 dX8_at_0 rfl ?_
  refine w_rR E S hM lk_8_12 rfl dX8_at_1 (fun v1 hM => ?_)
  refine w_iload_n E hl 1 dX8_at_4 rfl ?_
  refine w_cVq (rest := []) E S hl hM (kX3_findCounter l base D dA F v1 x1) mcX3_findCounter ⟨by decide, rfl, wd_153, wd_154, wd_155⟩ hfr hlo (by decide) rfl (Nat.le_of_ble_eq_true rfl) dX8_at_5 rfl (fun v5 σ H locs S hM => ?_)
  refine w_astore_n (lt' := [(3, .inr (.inl v5)), (0, .inr (.inl r0)), (1, .inl x1), (2, .inl x2)]) E hl dX8_at_8 (by decide) rfl (fun ls hl => ?_)
  refine w_aload_n E hl 0 dX8_at_9 rfl ?_
  refine w_ifnonnull (tgt := 16) E hM dX8_at_10 (by decide) (fun c10 hM => ?_) (fun a10 c10 hM => ?_)
  · skip
    refine w_ldc (v := (-2147483648 : Int32)) E wd_571 dX8_at_13 ?_
    exact w_iret E S hM hr hk dX8_at_15
  · skip
    refine w_iload_n E hl 3 dX8_at_16 rfl ?_
    by_cases h17_0 : x2 = 0
    · replace hM := x_okT hM h17_0
      refine lv_tableIn (off := 39) (tgt := 56) E.1 E.2.1 dX8_at_17 (by rw [h17_0]; decide) (by rw [h17_0]; decide) (by rw [h17_0]; rfl) (by decide) ?_
      refine w_aload_n E hl 0 dX8_at_56 rfl ?_
      refine w_rI E S hM lk_8_107 rfl dX8_at_57 (fun v57 hM => ?_)
      exact w_iret E S hM hr hk dX8_at_60
    replace hM := x_okF hM h17_0
    by_cases h17_1 : x2 = 1
    · replace hM := x_okT hM h17_1
      refine lv_tableIn (off := 44) (tgt := 61) E.1 E.2.1 dX8_at_17 (by rw [h17_1]; decide) (by rw [h17_1]; decide) (by rw [h17_1]; rfl) (by decide) ?_
      refine w_aload_n E hl 0 dX8_at_61 rfl ?_
      refine w_aload_n E hl 1 dX8_at_62 rfl ?_
      refine w_rI E S hM lk_8_60 rfl dX8_at_63 (fun v63 hM => ?_)
      refine w_cVi (rest := []) E S hl hM (kX1_isOpen l base D dA F v5 v63) mcX1_isOpen ⟨by decide, rfl, wd_291, wd_292, wd_293⟩ hfr hlo (by decide) rfl (Nat.le_of_ble_eq_true rfl) dX8_at_66 rfl (fun v66 σ H locs S hM => ?_)
      refine w_cSi (rest := []) E S hl hM (kX8_oneIf l base D dA F v66) mcX8_oneIf ⟨wd_560, wd_561⟩ hfr hlo (by decide) rfl (Nat.le_of_ble_eq_true rfl) dX8_at_69 rfl (fun v69 σ H locs S hM => ?_)
      exact w_iret E S hM hr hk dX8_at_72
    replace hM := x_okF hM h17_1
    by_cases h17_2 : x2 = 2
    · replace hM := x_okT hM h17_2
      refine lv_tableIn (off := 56) (tgt := 73) E.1 E.2.1 dX8_at_17 (by rw [h17_2]; decide) (by rw [h17_2]; decide) (by rw [h17_2]; rfl) (by decide) ?_
      refine lv_iconst (v := (0 : Int32)) E.1 E.2.1 dX8_at_73 (by decide) ?_
      refine w_aload_n E hl 1 dX8_at_74 rfl ?_
      refine w_aload_n E hl 0 dX8_at_75 rfl ?_
      refine w_cVi (rest := [.int (0 : Int32)]) E S hl hM (kX8_awaitedAt l base D dA F r0 v5) mcX8_awaitedAt ⟨by decide, rfl, wd_572, wd_574, wp_20⟩ hfr hlo (by decide) rfl (Nat.le_of_ble_eq_true rfl) dX8_at_76 rfl (fun v76 σ H locs S hM => ?_)
      refine w_aload_n E hl 0 dX8_at_79 rfl ?_
      refine w_rI E S hM lk_8_107 rfl dX8_at_80 (fun v80 hM => ?_)
      refine lv_isub E.1 E.2.1 dX8_at_83 ?_
      refine w_mmax E S hl ⟨wd_580, wd_285, wd_8, wd_286⟩ (by rw [hfr, hlo]; decide) (Nat.le_of_ble_eq_true rfl) dX8_at_84 ?_
      exact w_iret E S hM hr hk dX8_at_87
    replace hM := x_okF hM h17_2
    by_cases h17_3 : x2 = 3
    · replace hM := x_okT hM h17_3
      refine lv_tableIn (off := 71) (tgt := 88) E.1 E.2.1 dX8_at_17 (by rw [h17_3]; decide) (by rw [h17_3]; decide) (by rw [h17_3]; rfl) (by decide) ?_
      refine w_aload_n E hl 0 dX8_at_88 rfl ?_
      refine w_rI E S hM lk_8_235 rfl dX8_at_89 (fun v89 hM => ?_)
      exact w_iret E S hM hr hk dX8_at_92
    replace hM := x_okF hM h17_3
    by_cases h17_4 : x2 = 4
    · replace hM := x_okT hM h17_4
      refine lv_tableIn (off := 76) (tgt := 93) E.1 E.2.1 dX8_at_17 (by rw [h17_4]; decide) (by rw [h17_4]; decide) (by rw [h17_4]; rfl) (by decide) ?_
      refine w_aload_n E hl 0 dX8_at_93 rfl ?_
      refine w_rI E S hM lk_8_110 rfl dX8_at_94 (fun v94 hM => ?_)
      exact w_iret E S hM hr hk dX8_at_97
    replace hM := x_okF hM h17_4
    by_cases h17_5 : x2 = 5
    · replace hM := x_okT hM h17_5
      refine lv_tableIn (off := 81) (tgt := 98) E.1 E.2.1 dX8_at_17 (by rw [h17_5]; decide) (by rw [h17_5]; decide) (by rw [h17_5]; rfl) (by decide) ?_
      refine w_aload_n E hl 1 dX8_at_98 rfl ?_
      refine w_rR E S hM lk_8_12 rfl dX8_at_99 (fun v99 hM => ?_)
      refine w_aload_n E hl 0 dX8_at_102 rfl ?_
      refine w_cVi (rest := []) E S hl hM (kX3_queuedAt l base D dA F v99 v5) mcX3_queuedAt ⟨by decide, rfl, wd_581, wd_582, wd_583⟩ hfr hlo (by decide) rfl (Nat.le_of_ble_eq_true rfl) dX8_at_103 rfl (fun v103 σ H locs S hM => ?_)
      exact w_iret E S hM hr hk dX8_at_106
    replace hM := x_okF hM h17_5
    have n17_0 := lv_neT (a := 0) h17_0 (by decide)
    have n17_1 := lv_neT (a := 1) h17_1 (by decide)
    have n17_2 := lv_neT (a := 2) h17_2 (by decide)
    have n17_3 := lv_neT (a := 3) h17_3 (by decide)
    have n17_4 := lv_neT (a := 4) h17_4 (by decide)
    have n17_5 := lv_neT (a := 5) h17_5 (by decide)
    refine lv_tableOut (tgt := 107) E.1 E.2.1 dX8_at_17 (by omega) (by decide) ?_
    refine w_ldc (v := (-2147483648 : Int32)) E wd_571 dX8_at_107 ?_
    exact w_iret E S hM hr hk dX8_at_109
theorem dX8_count_0 : decode cX8_count 0 = .ok (.iload_n 1, 1) := by decide +kernel
theorem dX8_count_1 : decode cX8_count 1 = .ok (.tableswitch 93 0 7 #[47, 52, 60, 68, 73, 78, 83, 88], 47) := by decide +kernel
theorem dX8_count_48 : decode cX8_count 48 = .ok (.aload_n 0, 1) := by decide +kernel
theorem dX8_count_49 : decode cX8_count 49 = .ok (.getfield 60, 3) := by decide +kernel
theorem dX8_count_52 : decode cX8_count 52 = .ok (.ireturn, 1) := by decide +kernel
theorem dX8_count_53 : decode cX8_count 53 = .ok (.aload_n 0, 1) := by decide +kernel
theorem dX8_count_54 : decode cX8_count 54 = .ok (.getfield 12, 3) := by decide +kernel
theorem dX8_count_57 : decode cX8_count 57 = .ok (.getfield 241, 3) := by decide +kernel
theorem dX8_count_60 : decode cX8_count 60 = .ok (.ireturn, 1) := by decide +kernel
theorem dX8_count_61 : decode cX8_count 61 = .ok (.aload_n 0, 1) := by decide +kernel
theorem dX8_count_62 : decode cX8_count 62 = .ok (.getfield 12, 3) := by decide +kernel
theorem dX8_count_65 : decode cX8_count 65 = .ok (.getfield 244, 3) := by decide +kernel
theorem dX8_count_68 : decode cX8_count 68 = .ok (.ireturn, 1) := by decide +kernel
theorem dX8_count_69 : decode cX8_count 69 = .ok (.aload_n 0, 1) := by decide +kernel
theorem dX8_count_70 : decode cX8_count 70 = .ok (.getfield 94, 3) := by decide +kernel
theorem dX8_count_73 : decode cX8_count 73 = .ok (.ireturn, 1) := by decide +kernel
theorem dX8_count_74 : decode cX8_count 74 = .ok (.aload_n 0, 1) := by decide +kernel
theorem dX8_count_75 : decode cX8_count 75 = .ok (.getfield 135, 3) := by decide +kernel
theorem dX8_count_78 : decode cX8_count 78 = .ok (.ireturn, 1) := by decide +kernel
theorem dX8_count_79 : decode cX8_count 79 = .ok (.aload_n 0, 1) := by decide +kernel
theorem dX8_count_80 : decode cX8_count 80 = .ok (.getfield 247, 3) := by decide +kernel
theorem dX8_count_83 : decode cX8_count 83 = .ok (.ireturn, 1) := by decide +kernel
theorem dX8_count_84 : decode cX8_count 84 = .ok (.aload_n 0, 1) := by decide +kernel
theorem dX8_count_85 : decode cX8_count 85 = .ok (.getfield 250, 3) := by decide +kernel
theorem dX8_count_88 : decode cX8_count 88 = .ok (.ireturn, 1) := by decide +kernel
theorem dX8_count_89 : decode cX8_count 89 = .ok (.aload_n 0, 1) := by decide +kernel
theorem dX8_count_90 : decode cX8_count 90 = .ok (.getfield 253, 3) := by decide +kernel
theorem dX8_count_93 : decode cX8_count 93 = .ok (.ireturn, 1) := by decide +kernel
theorem dX8_count_94 : decode cX8_count 94 = .ok (.iconst (-1), 1) := by decide +kernel
theorem dX8_count_95 : decode cX8_count 95 = .ok (.ireturn, 1) := by decide +kernel
theorem mcX8_count : x_mc yX8_count cX8_count 2 (some .int) 1 := ⟨wd_594, wd_1, by decide +kernel⟩
set_option maxHeartbeats 4000000 in
set_option maxRecDepth 100000 in
theorem kX8_count (l : Launch) (base : Nat) (D : va_G) (dA : Nat → ClassId) (F : Nat) (r0 : Option Nat) (x1 : Int32) : x_Met l base D dA yX8_count cX8_count 2 (some .int) 0 0 [va_rf r0, .int x1] (mX8_count F r0 x1) (fun x => some (.int x)) := by
  refine x_Met.of [(0, .inr (.inl r0)), (1, .inl x1)] (by decide) (Nat.le_of_ble_eq_true rfl) rfl rfl ?_
  intro p e R s m args below meth c σ a τ ls hfr hlo E hr hk hn S hM hl
  have E : x_E p s m args c cX8_count 2 "WireMoney" D dA := E
  unfold mX8_count at hM
  refine w_iload_n E hl 1 dX8_count_0 rfl ?_
  by_cases h1_0 : x1 = 0
  · replace hM := x_okT hM h1_0
    refine lv_tableIn (off := 47) (tgt := 48) E.1 E.2.1 dX8_count_1 (by rw [h1_0]; decide) (by rw [h1_0]; decide) (by rw [h1_0]; rfl) (by decide) ?_
    refine w_aload_n E hl 0 dX8_count_48 rfl ?_
    refine w_rI E S hM lk_8_60 rfl dX8_count_49 (fun v49 hM => ?_)
    exact w_iret E S hM hr hk dX8_count_52
  replace hM := x_okF hM h1_0
  by_cases h1_1 : x1 = 1
  · replace hM := x_okT hM h1_1
    refine lv_tableIn (off := 52) (tgt := 53) E.1 E.2.1 dX8_count_1 (by rw [h1_1]; decide) (by rw [h1_1]; decide) (by rw [h1_1]; rfl) (by decide) ?_
    refine w_aload_n E hl 0 dX8_count_53 rfl ?_
    refine w_rR E S hM lk_8_12 rfl dX8_count_54 (fun v54 hM => ?_)
    refine w_rI E S hM lk_8_241 rfl dX8_count_57 (fun v57 hM => ?_)
    exact w_iret E S hM hr hk dX8_count_60
  replace hM := x_okF hM h1_1
  by_cases h1_2 : x1 = 2
  · replace hM := x_okT hM h1_2
    refine lv_tableIn (off := 60) (tgt := 61) E.1 E.2.1 dX8_count_1 (by rw [h1_2]; decide) (by rw [h1_2]; decide) (by rw [h1_2]; rfl) (by decide) ?_
    refine w_aload_n E hl 0 dX8_count_61 rfl ?_
    refine w_rR E S hM lk_8_12 rfl dX8_count_62 (fun v62 hM => ?_)
    refine w_rI E S hM lk_8_244 rfl dX8_count_65 (fun v65 hM => ?_)
    exact w_iret E S hM hr hk dX8_count_68
  replace hM := x_okF hM h1_2
  by_cases h1_3 : x1 = 3
  · replace hM := x_okT hM h1_3
    refine lv_tableIn (off := 68) (tgt := 69) E.1 E.2.1 dX8_count_1 (by rw [h1_3]; decide) (by rw [h1_3]; decide) (by rw [h1_3]; rfl) (by decide) ?_
    refine w_aload_n E hl 0 dX8_count_69 rfl ?_
    refine w_rI E S hM lk_8_94 rfl dX8_count_70 (fun v70 hM => ?_)
    exact w_iret E S hM hr hk dX8_count_73
  replace hM := x_okF hM h1_3
  by_cases h1_4 : x1 = 4
  · replace hM := x_okT hM h1_4
    refine lv_tableIn (off := 73) (tgt := 74) E.1 E.2.1 dX8_count_1 (by rw [h1_4]; decide) (by rw [h1_4]; decide) (by rw [h1_4]; rfl) (by decide) ?_
    refine w_aload_n E hl 0 dX8_count_74 rfl ?_
    refine w_rI E S hM lk_8_135 rfl dX8_count_75 (fun v75 hM => ?_)
    exact w_iret E S hM hr hk dX8_count_78
  replace hM := x_okF hM h1_4
  by_cases h1_5 : x1 = 5
  · replace hM := x_okT hM h1_5
    refine lv_tableIn (off := 78) (tgt := 79) E.1 E.2.1 dX8_count_1 (by rw [h1_5]; decide) (by rw [h1_5]; decide) (by rw [h1_5]; rfl) (by decide) ?_
    refine w_aload_n E hl 0 dX8_count_79 rfl ?_
    refine w_rI E S hM lk_8_247 rfl dX8_count_80 (fun v80 hM => ?_)
    exact w_iret E S hM hr hk dX8_count_83
  replace hM := x_okF hM h1_5
  by_cases h1_6 : x1 = 6
  · replace hM := x_okT hM h1_6
    refine lv_tableIn (off := 83) (tgt := 84) E.1 E.2.1 dX8_count_1 (by rw [h1_6]; decide) (by rw [h1_6]; decide) (by rw [h1_6]; rfl) (by decide) ?_
    refine w_aload_n E hl 0 dX8_count_84 rfl ?_
    refine w_rI E S hM lk_8_250 rfl dX8_count_85 (fun v85 hM => ?_)
    exact w_iret E S hM hr hk dX8_count_88
  replace hM := x_okF hM h1_6
  by_cases h1_7 : x1 = 7
  · replace hM := x_okT hM h1_7
    refine lv_tableIn (off := 88) (tgt := 89) E.1 E.2.1 dX8_count_1 (by rw [h1_7]; decide) (by rw [h1_7]; decide) (by rw [h1_7]; rfl) (by decide) ?_
    refine w_aload_n E hl 0 dX8_count_89 rfl ?_
    refine w_rI E S hM lk_8_253 rfl dX8_count_90 (fun v90 hM => ?_)
    exact w_iret E S hM hr hk dX8_count_93
  replace hM := x_okF hM h1_7
  have n1_0 := lv_neT (a := 0) h1_0 (by decide)
  have n1_1 := lv_neT (a := 1) h1_1 (by decide)
  have n1_2 := lv_neT (a := 2) h1_2 (by decide)
  have n1_3 := lv_neT (a := 3) h1_3 (by decide)
  have n1_4 := lv_neT (a := 4) h1_4 (by decide)
  have n1_5 := lv_neT (a := 5) h1_5 (by decide)
  have n1_6 := lv_neT (a := 6) h1_6 (by decide)
  have n1_7 := lv_neT (a := 7) h1_7 (by decide)
  refine lv_tableOut (tgt := 94) E.1 E.2.1 dX8_count_1 (by omega) (by decide) ?_
  refine lv_iconst (v := (-1 : Int32)) E.1 E.2.1 dX8_count_94 (by decide) ?_
  exact w_iret E S hM hr hk dX8_count_95
