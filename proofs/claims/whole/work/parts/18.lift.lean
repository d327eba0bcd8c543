theorem dX9_cart_0 : decode cX9_cart 0 = .ok (.aload_n 0, 1) := by decide +kernel
theorem dX9_cart_1 : decode cX9_cart 1 = .ok (.iload_n 1, 1) := by decide +kernel
theorem dX9_cart_2 : decode cX9_cart 2 = .ok (.invokevirtual 152, 3) := by decide +kernel
theorem dX9_cart_5 : decode cX9_cart 5 = .ok (.ifCond .eq 30, 3) := by decide +kernel
theorem dX9_cart_8 : decode cX9_cart 8 = .ok (.aload_n 0, 1) := by decide +kernel
theorem dX9_cart_9 : decode cX9_cart 9 = .ok (.iload_n 2, 1) := by decide +kernel
theorem dX9_cart_10 : decode cX9_cart 10 = .ok (.invokevirtual 152, 3) := by decide +kernel
theorem dX9_cart_13 : decode cX9_cart 13 = .ok (.ifCond .eq 22, 3) := by decide +kernel
theorem dX9_cart_16 : decode cX9_cart 16 = .ok (.iload_n 1, 1) := by decide +kernel
theorem dX9_cart_17 : decode cX9_cart 17 = .ok (.iload_n 2, 1) := by decide +kernel
theorem dX9_cart_18 : decode cX9_cart 18 = .ok (.if_icmp .eq 17, 3) := by decide +kernel
theorem dX9_cart_21 : decode cX9_cart 21 = .ok (.iload_n 3, 1) := by decide +kernel
theorem dX9_cart_22 : decode cX9_cart 22 = .ok (.iconst 1, 1) := by decide +kernel
theorem dX9_cart_23 : decode cX9_cart 23 = .ok (.aload_n 0, 1) := by decide +kernel
theorem dX9_cart_24 : decode cX9_cart 24 = .ok (.getfield 9, 3) := by decide +kernel
theorem dX9_cart_27 : decode cX9_cart 27 = .ok (.iload_n 1, 1) := by decide +kernel
theorem dX9_cart_28 : decode cX9_cart 28 = .ok (.iaload, 1) := by decide +kernel
theorem dX9_cart_29 : decode cX9_cart 29 = .ok (.invokestatic 138, 3) := by decide +kernel
theorem dX9_cart_32 : decode cX9_cart 32 = .ok (.ifCond .ne 5, 3) := by decide +kernel
theorem dX9_cart_35 : decode cX9_cart 35 = .ok (.iconst 0, 1) := by decide +kernel
theorem dX9_cart_36 : decode cX9_cart 36 = .ok (.ireturn, 1) := by decide +kernel
theorem dX9_cart_37 : decode cX9_cart 37 = .ok (.aload_n 0, 1) := by decide +kernel
theorem dX9_cart_38 : decode cX9_cart 38 = .ok (.getfield 9, 3) := by decide +kernel
theorem dX9_cart_41 : decode cX9_cart 41 = .ok (.iload_n 1, 1) := by decide +kernel
theorem dX9_cart_42 : decode cX9_cart 42 = .ok (.dup2, 1) := by decide +kernel
theorem dX9_cart_43 : decode cX9_cart 43 = .ok (.iaload, 1) := by decide +kernel
theorem dX9_cart_44 : decode cX9_cart 44 = .ok (.iload_n 3, 1) := by decide +kernel
theorem dX9_cart_45 : decode cX9_cart 45 = .ok (.isub, 1) := by decide +kernel
theorem dX9_cart_46 : decode cX9_cart 46 = .ok (.iastore, 1) := by decide +kernel
theorem dX9_cart_47 : decode cX9_cart 47 = .ok (.aload_n 0, 1) := by decide +kernel
theorem dX9_cart_48 : decode cX9_cart 48 = .ok (.getfield 9, 3) := by decide +kernel
theorem dX9_cart_51 : decode cX9_cart 51 = .ok (.iload_n 2, 1) := by decide +kernel
theorem dX9_cart_52 : decode cX9_cart 52 = .ok (.dup2, 1) := by decide +kernel
theorem dX9_cart_53 : decode cX9_cart 53 = .ok (.iaload, 1) := by decide +kernel
theorem dX9_cart_54 : decode cX9_cart 54 = .ok (.iload_n 3, 1) := by decide +kernel
theorem dX9_cart_55 : decode cX9_cart 55 = .ok (.iadd, 1) := by decide +kernel
theorem dX9_cart_56 : decode cX9_cart 56 = .ok (.iastore, 1) := by decide +kernel
theorem dX9_cart_57 : decode cX9_cart 57 = .ok (.aload_n 0, 1) := by decide +kernel
theorem dX9_cart_58 : decode cX9_cart 58 = .ok (.getfield 22, 3) := by decide +kernel
theorem dX9_cart_61 : decode cX9_cart 61 = .ok (.iload_n 1, 1) := by decide +kernel
theorem dX9_cart_62 : decode cX9_cart 62 = .ok (.dup2, 1) := by decide +kernel
theorem dX9_cart_63 : decode cX9_cart 63 = .ok (.iaload, 1) := by decide +kernel
theorem dX9_cart_64 : decode cX9_cart 64 = .ok (.iload_n 3, 1) := by decide +kernel
theorem dX9_cart_65 : decode cX9_cart 65 = .ok (.iadd, 1) := by decide +kernel
theorem dX9_cart_66 : decode cX9_cart 66 = .ok (.iastore, 1) := by decide +kernel
theorem dX9_cart_67 : decode cX9_cart 67 = .ok (.aload_n 0, 1) := by decide +kernel
theorem dX9_cart_68 : decode cX9_cart 68 = .ok (.getfield 22, 3) := by decide +kernel
theorem dX9_cart_71 : decode cX9_cart 71 = .ok (.iload_n 2, 1) := by decide +kernel
theorem dX9_cart_72 : decode cX9_cart 72 = .ok (.dup2, 1) := by decide +kernel
theorem dX9_cart_73 : decode cX9_cart 73 = .ok (.iaload, 1) := by decide +kernel
theorem dX9_cart_74 : decode cX9_cart 74 = .ok (.iload_n 3, 1) := by decide +kernel
theorem dX9_cart_75 : decode cX9_cart 75 = .ok (.isub, 1) := by decide +kernel
theorem dX9_cart_76 : decode cX9_cart 76 = .ok (.iastore, 1) := by decide +kernel
theorem dX9_cart_77 : decode cX9_cart 77 = .ok (.iconst 1, 1) := by decide +kernel
theorem dX9_cart_78 : decode cX9_cart 78 = .ok (.ireturn, 1) := by decide +kernel
theorem mcX9_cart : x_mc yX9_cart cX9_cart 4 (some .boolean) 3 := ⟨wd_841, wd_4, by decide +kernel⟩
set_option maxHeartbeats 4000000 in
set_option maxRecDepth 100000 in
theorem kX9_cart (l : Launch) (base : Nat) (D : va_G) (dA : Nat → ClassId) (F : Nat) (r0 : Option Nat) (x1 : Int32) (x2 : Int32) (x3 : Int32) : x_Met l base D dA yX9_cart cX9_cart 4 (some .boolean) 2 43 [va_rf r0, .int x1, .int x2, .int x3] (mX9_cart F r0 x1 x2 x3) (fun x => some (.int x)) := by
  refine x_Met.of [(0, .inr (.inl r0)), (1, .inl x1), (2, .inl x2), (3, .inl x3)] (by decide) (Nat.le_of_ble_eq_true rfl) rfl rfl ?_
  intro p e R s m args below meth c σ a τ ls hfr hlo E hr hk hn S hM hl
  have E : x_E p s m args c cX9_cart 4 "WireMoneyModel" D dA := E
  unfold mX9_cart at hM
  refine w_aload_n E hl 0 dX9_cart_0 rfl ?_
  refine w_iload_n E hl 1 dX9_cart_1 rfl ?_
  refine w_cVi (rest := []) E S hl hM (kX9_isCounter l base D dA F r0 x1) mcX9_isCounter ⟨by decide, rfl, wd_769, wd_771, wp_22⟩ hfr hlo (by decide) rfl (Nat.le_of_ble_eq_true rfl) dX9_cart_2 rfl (fun v2 σ H locs S hM => ?_)
  refine lv_if_eq (tgt := 35) E.1 E.2.1 dX9_cart_5 (by decide) (fun c5 => ?_) (fun c5 => ?_)
  · replace hM := x_okT hM c5
    refine lv_iconst (v := (0 : Int32)) E.1 E.2.1 dX9_cart_35 (by decide) ?_
    exact w_zretc E S hM (by decide) hr hk dX9_cart_36
  · replace hM := x_okF hM c5
    refine w_aload_n E hl 0 dX9_cart_8 rfl ?_
    refine w_iload_n E hl 2 dX9_cart_9 rfl ?_
    refine w_cVi (rest := []) E S hl hM (kX9_isCounter l base D dA F r0 x2) mcX9_isCounter ⟨by decide, rfl, wd_769, wd_771, wp_22⟩ hfr hlo (by decide) rfl (Nat.le_of_ble_eq_true rfl) dX9_cart_10 rfl (fun v10 σ H locs S hM => ?_)
    refine lv_if_eq (tgt := 35) E.1 E.2.1 dX9_cart_13 (by decide) (fun c13 => ?_) (fun c13 => ?_)
    · replace hM := x_okT hM c13
      refine lv_iconst (v := (0 : Int32)) E.1 E.2.1 dX9_cart_35 (by decide) ?_
      exact w_zretc E S hM (by decide) hr hk dX9_cart_36
    · replace hM := x_okF hM c13
      refine w_iload_n E hl 1 dX9_cart_16 rfl ?_
      refine w_iload_n E hl 2 dX9_cart_17 rfl ?_
      refine lv_icmp_eq (tgt := 35) E.1 E.2.1 dX9_cart_18 (by decide) (fun c18 => ?_) (fun c18 => ?_)
      · replace hM := x_okT hM c18
        refine lv_iconst (v := (0 : Int32)) E.1 E.2.1 dX9_cart_35 (by decide) ?_
        exact w_zretc E S hM (by decide) hr hk dX9_cart_36
      · replace hM := x_okF hM c18
        refine w_iload_n E hl 3 dX9_cart_21 rfl ?_
        refine lv_iconst (v := (1 : Int32)) E.1 E.2.1 dX9_cart_22 (by decide) ?_
        refine w_aload_n E hl 0 dX9_cart_23 rfl ?_
        refine w_rR E S hM lk_9_9 rfl dX9_cart_24 (fun v24 hM => ?_)
        refine w_iload_n E hl 1 dX9_cart_27 rfl ?_
        refine w_aI E S hM dX9_cart_28 (fun v28 hM => ?_)
        refine w_cSi (rest := []) E S hl hM (kX9_in l base D dA F x3 (1 : Int32) v28) mcX9_in ⟨wd_762, wd_763⟩ hfr hlo (by decide) rfl (Nat.le_of_ble_eq_true rfl) dX9_cart_29 rfl (fun v29 σ H locs S hM => ?_)
        refine lv_if_ne (tgt := 37) E.1 E.2.1 dX9_cart_32 (by decide) (fun c32 => ?_) (fun c32 => ?_)
        · replace hM := x_okF hM c32
          refine w_aload_n E hl 0 dX9_cart_37 rfl ?_
          refine w_rR E S hM lk_9_9 rfl dX9_cart_38 (fun v38 hM => ?_)
          refine w_iload_n E hl 1 dX9_cart_41 rfl ?_
          refine lv_dup2_11 E.1 E.2.1 dX9_cart_42 rfl (x_cat _) ?_
          refine w_aI E S hM dX9_cart_43 (fun v43 hM => ?_)
          refine w_iload_n E hl 3 dX9_cart_44 rfl ?_
          refine lv_isub E.1 E.2.1 dX9_cart_45 ?_
          refine w_sI E S hM dX9_cart_46 (fun σ H locs S hM => ?_)
          refine w_aload_n E hl 0 dX9_cart_47 rfl ?_
          refine w_rR E S hM lk_9_9 rfl dX9_cart_48 (fun v48 hM => ?_)
          refine w_iload_n E hl 2 dX9_cart_51 rfl ?_
          refine lv_dup2_11 E.1 E.2.1 dX9_cart_52 rfl (x_cat _) ?_
          refine w_aI E S hM dX9_cart_53 (fun v53 hM => ?_)
          refine w_iload_n E hl 3 dX9_cart_54 rfl ?_
          refine lv_iadd E.1 E.2.1 dX9_cart_55 ?_
          refine w_sI E S hM dX9_cart_56 (fun σ H locs S hM => ?_)
          refine w_aload_n E hl 0 dX9_cart_57 rfl ?_
          refine w_rR E S hM lk_9_22 rfl dX9_cart_58 (fun v58 hM => ?_)
          refine w_iload_n E hl 1 dX9_cart_61 rfl ?_
          refine lv_dup2_11 E.1 E.2.1 dX9_cart_62 rfl (x_cat _) ?_
          refine w_aI E S hM dX9_cart_63 (fun v63 hM => ?_)
          refine w_iload_n E hl 3 dX9_cart_64 rfl ?_
          refine lv_iadd E.1 E.2.1 dX9_cart_65 ?_
          refine w_sI E S hM dX9_cart_66 (fun σ H locs S hM => ?_)
          refine w_aload_n E hl 0 dX9_cart_67 rfl ?_
          refine w_rR E S hM lk_9_22 rfl dX9_cart_68 (fun v68 hM => ?_)
          refine w_iload_n E hl 2 dX9_cart_71 rfl ?_
          refine lv_dup2_11 E.1 E.2.1 dX9_cart_72 rfl (x_cat _) ?_
          refine w_aI E S hM dX9_cart_73 (fun v73 hM => ?_)
          refine w_iload_n E hl 3 dX9_cart_74 rfl ?_
          refine lv_isub E.1 E.2.1 dX9_cart_75 ?_
          refine w_sI E S hM dX9_cart_76 (fun σ H locs S hM => ?_)
          refine lv_iconst (v := (1 : Int32)) E.1 E.2.1 dX9_cart_77 (by decide) ?_
          exact w_zretc E S hM (by decide) hr hk dX9_cart_78
        · replace hM := x_okT hM c32
          refine lv_iconst (v := (0 : Int32)) E.1 E.2.1 dX9_cart_35 (by decide) ?_
          exact w_zretc E S hM (by decide) hr hk dX9_cart_36
theorem dX9_isPayment_0 : decode cX9_isPayment 0 = .ok (.iload_n 1, 1) := by decide +kernel
theorem dX9_isPayment_1 : decode cX9_isPayment 1 = .ok (.iconst 0, 1) := by decide +kernel
theorem dX9_isPayment_2 : decode cX9_isPayment 2 = .ok (.aload_n 0, 1) := by decide +kernel
theorem dX9_isPayment_3 : decode cX9_isPayment 3 = .ok (.getfield 173, 3) := by decide +kernel
theorem dX9_isPayment_6 : decode cX9_isPayment 6 = .ok (.iconst 1, 1) := by decide +kernel
theorem dX9_isPayment_7 : decode cX9_isPayment 7 = .ok (.isub, 1) := by decide +kernel
theorem dX9_isPayment_8 : decode cX9_isPayment 8 = .ok (.invokestatic 138, 3) := by decide +kernel
theorem dX9_isPayment_11 : decode cX9_isPayment 11 = .ok (.ifCond .eq 16, 3) := by decide +kernel
theorem dX9_isPayment_14 : decode cX9_isPayment 14 = .ok (.aload_n 0, 1) := by decide +kernel
theorem dX9_isPayment_15 : decode cX9_isPayment 15 = .ok (.getfield 86, 3) := by decide +kernel
theorem dX9_isPayment_18 : decode cX9_isPayment 18 = .ok (.iload_n 1, 1) := by decide +kernel
theorem dX9_isPayment_19 : decode cX9_isPayment 19 = .ok (.iaload, 1) := by decide +kernel
theorem dX9_isPayment_20 : decode cX9_isPayment 20 = .ok (.ifCond .ne 7, 3) := by decide +kernel
theorem dX9_isPayment_23 : decode cX9_isPayment 23 = .ok (.iconst 1, 1) := by decide +kernel
theorem dX9_isPayment_24 : decode cX9_isPayment 24 = .ok (.goto 4, 3) := by decide +kernel
theorem dX9_isPayment_27 : decode cX9_isPayment 27 = .ok (.iconst 0, 1) := by decide +kernel
theorem dX9_isPayment_28 : decode cX9_isPayment 28 = .ok (.ireturn, 1) := by decide +kernel
theorem mcX9_isPayment : x_mc yX9_isPayment cX9_isPayment 2 (some .boolean) 1 := ⟨wd_849, wd_4, by decide +kernel⟩
set_option maxHeartbeats 4000000 in
set_option maxRecDepth 100000 in
theorem kX9_isPayment (l : Launch) (base : Nat) (D : va_G) (dA : Nat → ClassId) (F : Nat) (r0 : Option Nat) (x1 : Int32) : x_Met l base D dA yX9_isPayment cX9_isPayment 2 (some .boolean) 1 22 [va_rf r0, .int x1] (mX9_isPayment F r0 x1) (fun x => some (.int x)) := by
  refine x_Met.of [(0, .inr (.inl r0)), (1, .inl x1)] (by decide) (Nat.le_of_ble_eq_true rfl) rfl rfl ?_
  intro p e R s m args below meth c σ a τ ls hfr hlo E hr hk hn S hM hl
  have E : x_E p s m args c cX9_isPayment 2 "WireMoneyModel" D dA := E
  unfold mX9_isPayment at hM
  refine w_iload_n E hl 1 dX9_isPayment_0 rfl ?_
  refine lv_iconst (v := (0 : Int32)) E.1 E.2.1 dX9_isPayment_1 (by decide) ?_
  refine w_aload_n E hl 0 dX9_isPayment_2 rfl ?_
  refine w_rI E S hM lk_9_173 rfl dX9_isPayment_3 (fun v3 hM => ?_)
  refine lv_iconst (v := (1 : Int32)) E.1 E.2.1 dX9_isPayment_6 (by decide) ?_
  refine lv_isub E.1 E.2.1 dX9_isPayment_7 ?_
  refine w_cSi (rest := []) E S hl hM (kX9_in l base D dA F x1 (0 : Int32) (v3 - (1 : Int32))) mcX9_in ⟨wd_762, wd_763⟩ hfr hlo (by decide) rfl (Nat.le_of_ble_eq_true rfl) dX9_isPayment_8 rfl (fun v8 σ H locs S hM => ?_)
  refine lv_if_eq (tgt := 27) E.1 E.2.1 dX9_isPayment_11 (by decide) (fun c11 => ?_) (fun c11 => ?_)
  · replace hM := x_okT hM c11
    refine lv_iconst (v := (0 : Int32)) E.1 E.2.1 dX9_isPayment_27 (by decide) ?_
    exact w_zretc E S hM (by decide) hr hk dX9_isPayment_28
  · replace hM := x_okF hM c11
    refine w_aload_n E hl 0 dX9_isPayment_14 rfl ?_
    refine w_rR E S hM lk_9_86 rfl dX9_isPayment_15 (fun v15 hM => ?_)
    refine w_iload_n E hl 1 dX9_isPayment_18 rfl ?_
    refine w_aI E S hM dX9_isPayment_19 (fun v19 hM => ?_)
    refine lv_if_ne (tgt := 27) E.1 E.2.1 dX9_isPayment_20 (by decide) (fun c20 => ?_) (fun c20 => ?_)
    · replace hM := x_okF hM c20
      refine lv_iconst (v := (0 : Int32)) E.1 E.2.1 dX9_isPayment_27 (by decide) ?_
      exact w_zretc E S hM (by decide) hr hk dX9_isPayment_28
    · replace hM := x_okT hM c20
      refine lv_iconst (v := (1 : Int32)) E.1 E.2.1 dX9_isPayment_23 (by decide) ?_
      refine lv_goto (tgt := 28) E.1 E.2.1 dX9_isPayment_24 (by decide) ?_
      exact w_zretc E S hM (by decide) hr hk dX9_isPayment_28
theorem dX9_garble_0 : decode cX9_garble 0 = .ok (.aload_n 0, 1) := by decide +kernel
theorem dX9_garble_1 : decode cX9_garble 1 = .ok (.iload_n 1, 1) := by decide +kernel
theorem dX9_garble_2 : decode cX9_garble 2 = .ok (.invokevirtual 205, 3) := by decide +kernel
theorem dX9_garble_5 : decode cX9_garble 5 = .ok (.ifCond .eq 42, 3) := by decide +kernel
theorem dX9_garble_8 : decode cX9_garble 8 = .ok (.aload_n 0, 1) := by decide +kernel
theorem dX9_garble_9 : decode cX9_garble 9 = .ok (.getfield 98, 3) := by decide +kernel
theorem dX9_garble_12 : decode cX9_garble 12 = .ok (.iload_n 1, 1) := by decide +kernel
theorem dX9_garble_13 : decode cX9_garble 13 = .ok (.iaload, 1) := by decide +kernel
theorem dX9_garble_14 : decode cX9_garble 14 = .ok (.iconst 2, 1) := by decide +kernel
theorem dX9_garble_15 : decode cX9_garble 15 = .ok (.if_icmp .eq 32, 3) := by decide +kernel
theorem dX9_garble_18 : decode cX9_garble 18 = .ok (.aload_n 0, 1) := by decide +kernel
theorem dX9_garble_19 : decode cX9_garble 19 = .ok (.getfield 119, 3) := by decide +kernel
theorem dX9_garble_22 : decode cX9_garble 22 = .ok (.iload_n 1, 1) := by decide +kernel
theorem dX9_garble_23 : decode cX9_garble 23 = .ok (.baload, 1) := by decide +kernel
theorem dX9_garble_24 : decode cX9_garble 24 = .ok (.ifCond .ne 23, 3) := by decide +kernel
theorem dX9_garble_27 : decode cX9_garble 27 = .ok (.iload_n 2, 1) := by decide +kernel
theorem dX9_garble_28 : decode cX9_garble 28 = .ok (.iconst 0, 1) := by decide +kernel
theorem dX9_garble_29 : decode cX9_garble 29 = .ok (.bipush 12, 2) := by decide +kernel
theorem dX9_garble_31 : decode cX9_garble 31 = .ok (.invokestatic 138, 3) := by decide +kernel
theorem dX9_garble_34 : decode cX9_garble 34 = .ok (.ifCond .eq 13, 3) := by decide +kernel
theorem dX9_garble_37 : decode cX9_garble 37 = .ok (.iload_n 3, 1) := by decide +kernel
theorem dX9_garble_38 : decode cX9_garble 38 = .ok (.iconst 0, 1) := by decide +kernel
theorem dX9_garble_39 : decode cX9_garble 39 = .ok (.bipush 9, 2) := by decide +kernel
theorem dX9_garble_41 : decode cX9_garble 41 = .ok (.invokestatic 138, 3) := by decide +kernel
theorem dX9_garble_44 : decode cX9_garble 44 = .ok (.ifCond .ne 5, 3) := by decide +kernel
theorem dX9_garble_47 : decode cX9_garble 47 = .ok (.iconst 0, 1) := by decide +kernel
theorem dX9_garble_48 : decode cX9_garble 48 = .ok (.ireturn, 1) := by decide +kernel
theorem dX9_garble_49 : decode cX9_garble 49 = .ok (.aload_n 0, 1) := by decide +kernel
theorem dX9_garble_50 : decode cX9_garble 50 = .ok (.getfield 128, 3) := by decide +kernel
theorem dX9_garble_53 : decode cX9_garble 53 = .ok (.bipush 13, 2) := by decide +kernel
theorem dX9_garble_55 : decode cX9_garble 55 = .ok (.iload_n 1, 1) := by decide +kernel
theorem dX9_garble_56 : decode cX9_garble 56 = .ok (.imul, 1) := by decide +kernel
theorem dX9_garble_57 : decode cX9_garble 57 = .ok (.iload_n 2, 1) := by decide +kernel
theorem dX9_garble_58 : decode cX9_garble 58 = .ok (.iadd, 1) := by decide +kernel
theorem dX9_garble_59 : decode cX9_garble 59 = .ok (.iaload, 1) := by decide +kernel
theorem dX9_garble_60 : decode cX9_garble 60 = .ok (.iload_n 3, 1) := by decide +kernel
theorem dX9_garble_61 : decode cX9_garble 61 = .ok (.if_icmp .ne 5, 3) := by decide +kernel
theorem dX9_garble_64 : decode cX9_garble 64 = .ok (.iconst 0, 1) := by decide +kernel
theorem dX9_garble_65 : decode cX9_garble 65 = .ok (.ireturn, 1) := by decide +kernel
theorem dX9_garble_66 : decode cX9_garble 66 = .ok (.aload_n 0, 1) := by decide +kernel
theorem dX9_garble_67 : decode cX9_garble 67 = .ok (.getfield 128, 3) := by decide +kernel
theorem dX9_garble_70 : decode cX9_garble 70 = .ok (.bipush 13, 2) := by decide +kernel
theorem dX9_garble_72 : decode cX9_garble 72 = .ok (.iload_n 1, 1) := by decide +kernel
theorem dX9_garble_73 : decode cX9_garble 73 = .ok (.imul, 1) := by decide +kernel
theorem dX9_garble_74 : decode cX9_garble 74 = .ok (.iload_n 2, 1) := by decide +kernel
theorem dX9_garble_75 : decode cX9_garble 75 = .ok (.iadd, 1) := by decide +kernel
theorem dX9_garble_76 : decode cX9_garble 76 = .ok (.iload_n 3, 1) := by decide +kernel
theorem dX9_garble_77 : decode cX9_garble 77 = .ok (.iastore, 1) := by decide +kernel
theorem dX9_garble_78 : decode cX9_garble 78 = .ok (.aload_n 0, 1) := by decide +kernel
theorem dX9_garble_79 : decode cX9_garble 79 = .ok (.getfield 119, 3) := by decide +kernel
theorem dX9_garble_82 : decode cX9_garble 82 = .ok (.iload_n 1, 1) := by decide +kernel
theorem dX9_garble_83 : decode cX9_garble 83 = .ok (.iconst 1, 1) := by decide +kernel
theorem dX9_garble_84 : decode cX9_garble 84 = .ok (.bastore, 1) := by decide +kernel
theorem dX9_garble_85 : decode cX9_garble 85 = .ok (.iconst 1, 1) := by decide +kernel
theorem dX9_garble_86 : decode cX9_garble 86 = .ok (.ireturn, 1) := by decide +kernel
theorem mcX9_garble : x_mc yX9_garble cX9_garble 4 (some .boolean) 3 := ⟨wd_845, wd_4, by decide +kernel⟩
set_option maxHeartbeats 4000000 in
set_option maxRecDepth 100000 in
theorem kX9_garble (l : Launch) (base : Nat) (D : va_G) (dA : Nat → ClassId) (F : Nat) (r0 : Option Nat) (x1 : Int32) (x2 : Int32) (x3 : Int32) : x_Met l base D dA yX9_garble cX9_garble 4 (some .boolean) 2 43 [va_rf r0, .int x1, .int x2, .int x3] (mX9_garble F r0 x1 x2 x3) (fun x => some (.int x)) := by
  refine x_Met.of [(0, .inr (.inl r0)), (1, .inl x1), (2, .inl x2), (3, .inl x3)] (by decide) (Nat.le_of_ble_eq_true rfl) rfl rfl ?_
  intro p e R s m args below meth c σ a τ ls hfr hlo E hr hk hn S hM hl
  have E : x_E p s m args c cX9_garble 4 "WireMoneyModel" D dA := E
  unfold mX9_garble at hM
  refine w_aload_n E hl 0 dX9_garble_0 rfl ?_
  refine w_iload_n E hl 1 dX9_garble_1 rfl ?_
  refine w_cVi (rest := []) E S hl hM (kX9_isPayment l base D dA F r0 x1) mcX9_isPayment ⟨by decide, rfl, wd_846, wd_848, wp_30⟩ hfr hlo (by decide) rfl (Nat.le_of_ble_eq_true rfl) dX9_garble_2 rfl (fun v2 σ H locs S hM => ?_)
  refine lv_if_eq (tgt := 47) E.1 E.2.1 dX9_garble_5 (by decide) (fun c5 => ?_) (fun c5 => ?_)
  · replace hM := x_okT hM c5
    refine lv_iconst (v := (0 : Int32)) E.1 E.2.1 dX9_garble_47 (by decide) ?_
    exact w_zretc E S hM (by decide) hr hk dX9_garble_48
  · replace hM := x_okF hM c5
    refine w_aload_n E hl 0 dX9_garble_8 rfl ?_
    refine w_rR E S hM lk_9_98 rfl dX9_garble_9 (fun v9 hM => ?_)
    refine w_iload_n E hl 1 dX9_garble_12 rfl ?_
    refine w_aI E S hM dX9_garble_13 (fun v13 hM => ?_)
    refine lv_iconst (v := (2 : Int32)) E.1 E.2.1 dX9_garble_14 (by decide) ?_
    refine lv_icmp_eq (tgt := 47) E.1 E.2.1 dX9_garble_15 (by decide) (fun c15 => ?_) (fun c15 => ?_)
    · replace hM := x_okT hM c15
      refine lv_iconst (v := (0 : Int32)) E.1 E.2.1 dX9_garble_47 (by decide) ?_
      exact w_zretc E S hM (by decide) hr hk dX9_garble_48
    · replace hM := x_okF hM c15
      refine w_aload_n E hl 0 dX9_garble_18 rfl ?_
      refine w_rR E S hM lk_9_119 rfl dX9_garble_19 (fun v19 hM => ?_)
      refine w_iload_n E hl 1 dX9_garble_22 rfl ?_
      refine w_aZ E S hM dX9_garble_23 (fun v23 hM => ?_)
      refine lv_if_ne (tgt := 47) E.1 E.2.1 dX9_garble_24 (by decide) (fun c24 => ?_) (fun c24 => ?_)
      · replace hM := x_okF hM c24
        refine lv_iconst (v := (0 : Int32)) E.1 E.2.1 dX9_garble_47 (by decide) ?_
        exact w_zretc E S hM (by decide) hr hk dX9_garble_48
      · replace hM := x_okT hM c24
        refine w_iload_n E hl 2 dX9_garble_27 rfl ?_
        refine lv_iconst (v := (0 : Int32)) E.1 E.2.1 dX9_garble_28 (by decide) ?_
        refine lv_bipush (v := (12 : Int32)) E.1 E.2.1 dX9_garble_29 (by decide) ?_
        refine w_cSi (rest := []) E S hl hM (kX9_in l base D dA F x2 (0 : Int32) (12 : Int32)) mcX9_in ⟨wd_762, wd_763⟩ hfr hlo (by decide) rfl (Nat.le_of_ble_eq_true rfl) dX9_garble_31 rfl (fun v31 σ H locs S hM => ?_)
        refine lv_if_eq (tgt := 47) E.1 E.2.1 dX9_garble_34 (by decide) (fun c34 => ?_) (fun c34 => ?_)
        · replace hM := x_okT hM c34
          refine lv_iconst (v := (0 : Int32)) E.1 E.2.1 dX9_garble_47 (by decide) ?_
          exact w_zretc E S hM (by decide) hr hk dX9_garble_48
        · replace hM := x_okF hM c34
          refine w_iload_n E hl 3 dX9_garble_37 rfl ?_
          refine lv_iconst (v := (0 : Int32)) E.1 E.2.1 dX9_garble_38 (by decide) ?_
          refine lv_bipush (v := (9 : Int32)) E.1 E.2.1 dX9_garble_39 (by decide) ?_
          refine w_cSi (rest := []) E S hl hM (kX9_in l base D dA F x3 (0 : Int32) (9 : Int32)) mcX9_in ⟨wd_762, wd_763⟩ hfr hlo (by decide) rfl (Nat.le_of_ble_eq_true rfl) dX9_garble_41 rfl (fun v41 σ H locs S hM => ?_)
          refine lv_if_ne (tgt := 49) E.1 E.2.1 dX9_garble_44 (by decide) (fun c44 => ?_) (fun c44 => ?_)
          · replace hM := x_okF hM c44
            refine w_aload_n E hl 0 dX9_garble_49 rfl ?_
            refine w_rR E S hM lk_9_128 rfl dX9_garble_50 (fun v50 hM => ?_)
            refine lv_bipush (v := (13 : Int32)) E.1 E.2.1 dX9_garble_53 (by decide) ?_
            refine w_iload_n E hl 1 dX9_garble_55 rfl ?_
            refine lv_imul E.1 E.2.1 dX9_garble_56 ?_
            refine w_iload_n E hl 2 dX9_garble_57 rfl ?_
            refine lv_iadd E.1 E.2.1 dX9_garble_58 ?_
            refine w_aI E S hM dX9_garble_59 (fun v59 hM => ?_)
            refine w_iload_n E hl 3 dX9_garble_60 rfl ?_
            refine lv_icmp_ne (tgt := 66) E.1 E.2.1 dX9_garble_61 (by decide) (fun c61 => ?_) (fun c61 => ?_)
            · replace hM := x_okF hM c61
              refine w_aload_n E hl 0 dX9_garble_66 rfl ?_
              refine w_rR E S hM lk_9_128 rfl dX9_garble_67 (fun v67 hM => ?_)
              refine lv_bipush (v := (13 : Int32)) E.1 E.2.1 dX9_garble_70 (by decide) ?_
              refine w_iload_n E hl 1 dX9_garble_72 rfl ?_
              refine lv_imul E.1 E.2.1 dX9_garble_73 ?_
              refine w_iload_n E hl 2 dX9_garble_74 rfl ?_
              refine lv_iadd E.1 E.2.1 dX9_garble_75 ?_
              refine w_iload_n E hl 3 dX9_garble_76 rfl ?_
              refine w_sI E S hM dX9_garble_77 (fun σ H locs S hM => ?_)
              refine w_aload_n E hl 0 dX9_garble_78 rfl ?_
              refine w_rR E S hM lk_9_119 rfl dX9_garble_79 (fun v79 hM => ?_)
              refine w_iload_n E hl 1 dX9_garble_82 rfl ?_
              refine lv_iconst (v := (1 : Int32)) E.1 E.2.1 dX9_garble_83 (by decide) ?_
              refine w_sZ E S hM dX9_garble_84 (fun σ H locs S hM => ?_)
              refine lv_iconst (v := (1 : Int32)) E.1 E.2.1 dX9_garble_85 (by decide) ?_
              exact w_zretc E S hM (by decide) hr hk dX9_garble_86
            · replace hM := x_okT hM c61
              refine lv_iconst (v := (0 : Int32)) E.1 E.2.1 dX9_garble_64 (by decide) ?_
              exact w_zretc E S hM (by decide) hr hk dX9_garble_65
          · replace hM := x_okT hM c44
            refine lv_iconst (v := (0 : Int32)) E.1 E.2.1 dX9_garble_47 (by decide) ?_
            exact w_zretc E S hM (by decide) hr hk dX9_garble_48
theorem dX9_reads_0 : decode cX9_reads 0 = .ok (.aload_n 0, 1) := by decide +kernel
theorem dX9_reads_1 : decode cX9_reads 1 = .ok (.getfield 89, 3) := by decide +kernel
theorem dX9_reads_4 : decode cX9_reads 4 = .ok (.iload_n 1, 1) := by decide +kernel
theorem dX9_reads_5 : decode cX9_reads 5 = .ok (.iaload, 1) := by decide +kernel
theorem dX9_reads_6 : decode cX9_reads 6 = .ok (.istore_n 2, 1) := by decide +kernel
theorem dX9_reads_7 : decode cX9_reads 7 = .ok (.aload_n 0, 1) := by decide +kernel
theorem dX9_reads_8 : decode cX9_reads 8 = .ok (.getfield 98, 3) := by decide +kernel
theorem dX9_reads_11 : decode cX9_reads 11 = .ok (.iload_n 1, 1) := by decide +kernel
theorem dX9_reads_12 : decode cX9_reads 12 = .ok (.iconst 2, 1) := by decide +kernel
theorem dX9_reads_13 : decode cX9_reads 13 = .ok (.iastore, 1) := by decide +kernel
theorem dX9_reads_14 : decode cX9_reads 14 = .ok (.aload_n 0, 1) := by decide +kernel
theorem dX9_reads_15 : decode cX9_reads 15 = .ok (.getfield 101, 3) := by decide +kernel
theorem dX9_reads_18 : decode cX9_reads 18 = .ok (.iload_n 1, 1) := by decide +kernel
theorem dX9_reads_19 : decode cX9_reads 19 = .ok (.aload_n 0, 1) := by decide +kernel
theorem dX9_reads_20 : decode cX9_reads 20 = .ok (.getfield 95, 3) := by decide +kernel
theorem dX9_reads_23 : decode cX9_reads 23 = .ok (.iload_n 1, 1) := by decide +kernel
theorem dX9_reads_24 : decode cX9_reads 24 = .ok (.iaload, 1) := by decide +kernel
theorem dX9_reads_25 : decode cX9_reads 25 = .ok (.iastore, 1) := by decide +kernel
theorem dX9_reads_26 : decode cX9_reads 26 = .ok (.aload_n 0, 1) := by decide +kernel
theorem dX9_reads_27 : decode cX9_reads 27 = .ok (.getfield 113, 3) := by decide +kernel
theorem dX9_reads_30 : decode cX9_reads 30 = .ok (.iload_n 1, 1) := by decide +kernel
theorem dX9_reads_31 : decode cX9_reads 31 = .ok (.aload_n 0, 1) := by decide +kernel
theorem dX9_reads_32 : decode cX9_reads 32 = .ok (.getfield 146, 3) := by decide +kernel
theorem dX9_reads_35 : decode cX9_reads 35 = .ok (.iastore, 1) := by decide +kernel
theorem dX9_reads_36 : decode cX9_reads 36 = .ok (.aload_n 0, 1) := by decide +kernel
theorem dX9_reads_37 : decode cX9_reads 37 = .ok (.getfield 86, 3) := by decide +kernel
theorem dX9_reads_40 : decode cX9_reads 40 = .ok (.iload_n 1, 1) := by decide +kernel
theorem dX9_reads_41 : decode cX9_reads 41 = .ok (.iaload, 1) := by decide +kernel
theorem dX9_reads_42 : decode cX9_reads 42 = .ok (.ifCond .ne 75, 3) := by decide +kernel
theorem dX9_reads_45 : decode cX9_reads 45 = .ok (.aload_n 0, 1) := by decide +kernel
theorem dX9_reads_46 : decode cX9_reads 46 = .ok (.iload_n 1, 1) := by decide +kernel
theorem dX9_reads_47 : decode cX9_reads 47 = .ok (.invokevirtual 179, 3) := by decide +kernel
theorem dX9_reads_50 : decode cX9_reads 50 = .ok (.aload_n 0, 1) := by decide +kernel
theorem dX9_reads_51 : decode cX9_reads 51 = .ok (.getfield 122, 3) := by decide +kernel
theorem dX9_reads_54 : decode cX9_reads 54 = .ok (.iload_n 1, 1) := by decide +kernel
theorem dX9_reads_55 : decode cX9_reads 55 = .ok (.iaload, 1) := by decide +kernel
theorem dX9_reads_56 : decode cX9_reads 56 = .ok (.if_icmp .eq 42, 3) := by decide +kernel
theorem dX9_reads_59 : decode cX9_reads 59 = .ok (.aload_n 0, 1) := by decide +kernel
theorem dX9_reads_60 : decode cX9_reads 60 = .ok (.getfield 116, 3) := by decide +kernel
theorem dX9_reads_63 : decode cX9_reads 63 = .ok (.iload_n 1, 1) := by decide +kernel
theorem dX9_reads_64 : decode cX9_reads 64 = .ok (.iconst 1, 1) := by decide +kernel
theorem dX9_reads_65 : decode cX9_reads 65 = .ok (.bastore, 1) := by decide +kernel
theorem dX9_reads_66 : decode cX9_reads 66 = .ok (.aload_n 0, 1) := by decide +kernel
theorem dX9_reads_67 : decode cX9_reads 67 = .ok (.dup, 1) := by decide +kernel
theorem dX9_reads_68 : decode cX9_reads 68 = .ok (.getfield 208, 3) := by decide +kernel
theorem dX9_reads_71 : decode cX9_reads 71 = .ok (.iconst 1, 1) := by decide +kernel
theorem dX9_reads_72 : decode cX9_reads 72 = .ok (.iadd, 1) := by decide +kernel
theorem dX9_reads_73 : decode cX9_reads 73 = .ok (.putfield 208, 3) := by decide +kernel
theorem dX9_reads_76 : decode cX9_reads 76 = .ok (.aload_n 0, 1) := by decide +kernel
theorem dX9_reads_77 : decode cX9_reads 77 = .ok (.iconst 3, 1) := by decide +kernel
theorem dX9_reads_78 : decode cX9_reads 78 = .ok (.iload_n 2, 1) := by decide +kernel
theorem dX9_reads_79 : decode cX9_reads 79 = .ok (.aload_n 0, 1) := by decide +kernel
theorem dX9_reads_80 : decode cX9_reads 80 = .ok (.getfield 52, 3) := by decide +kernel
theorem dX9_reads_83 : decode cX9_reads 83 = .ok (.iload_n 2, 1) := by decide +kernel
theorem dX9_reads_84 : decode cX9_reads 84 = .ok (.iaload, 1) := by decide +kernel
theorem dX9_reads_85 : decode cX9_reads 85 = .ok (.aload_n 0, 1) := by decide +kernel
theorem dX9_reads_86 : decode cX9_reads 86 = .ok (.getfield 49, 3) := by decide +kernel
theorem dX9_reads_89 : decode cX9_reads 89 = .ok (.iload_n 2, 1) := by decide +kernel
theorem dX9_reads_90 : decode cX9_reads 90 = .ok (.iaload, 1) := by decide +kernel
theorem dX9_reads_91 : decode cX9_reads 91 = .ok (.invokevirtual 195, 3) := by decide +kernel
theorem dX9_reads_94 : decode cX9_reads 94 = .ok (.pop, 1) := by decide +kernel
theorem dX9_reads_95 : decode cX9_reads 95 = .ok (.goto 160, 3) := by decide +kernel
theorem dX9_reads_98 : decode cX9_reads 98 = .ok (.aload_n 0, 1) := by decide +kernel
theorem dX9_reads_99 : decode cX9_reads 99 = .ok (.getfield 71, 3) := by decide +kernel
theorem dX9_reads_102 : decode cX9_reads 102 = .ok (.iload_n 2, 1) := by decide +kernel
theorem dX9_reads_103 : decode cX9_reads 103 = .ok (.baload, 1) := by decide +kernel
theorem dX9_reads_104 : decode cX9_reads 104 = .ok (.ifCond .ne 151, 3) := by decide +kernel
theorem dX9_reads_107 : decode cX9_reads 107 = .ok (.aload_n 0, 1) := by decide +kernel
theorem dX9_reads_108 : decode cX9_reads 108 = .ok (.getfield 64, 3) := by decide +kernel
theorem dX9_reads_111 : decode cX9_reads 111 = .ok (.iload_n 2, 1) := by decide +kernel
theorem dX9_reads_112 : decode cX9_reads 112 = .ok (.iconst 1, 1) := by decide +kernel
theorem dX9_reads_113 : decode cX9_reads 113 = .ok (.bastore, 1) := by decide +kernel
theorem dX9_reads_114 : decode cX9_reads 114 = .ok (.goto 141, 3) := by decide +kernel
theorem dX9_reads_117 : decode cX9_reads 117 = .ok (.aload_n 0, 1) := by decide +kernel
theorem dX9_reads_118 : decode cX9_reads 118 = .ok (.getfield 86, 3) := by decide +kernel
theorem dX9_reads_121 : decode cX9_reads 121 = .ok (.iload_n 1, 1) := by decide +kernel
theorem dX9_reads_122 : decode cX9_reads 122 = .ok (.iaload, 1) := by decide +kernel
theorem dX9_reads_123 : decode cX9_reads 123 = .ok (.iconst 3, 1) := by decide +kernel
theorem dX9_reads_124 : decode cX9_reads 124 = .ok (.if_icmp .ne 43, 3) := by decide +kernel
theorem dX9_reads_127 : decode cX9_reads 127 = .ok (.aload_n 0, 1) := by decide +kernel
theorem dX9_reads_128 : decode cX9_reads 128 = .ok (.getfield 68, 3) := by decide +kernel
theorem dX9_reads_131 : decode cX9_reads 131 = .ok (.iload_n 2, 1) := by decide +kernel
theorem dX9_reads_132 : decode cX9_reads 132 = .ok (.baload, 1) := by decide +kernel
theorem dX9_reads_133 : decode cX9_reads 133 = .ok (.ifCond .ne 122, 3) := by decide +kernel
theorem dX9_reads_136 : decode cX9_reads 136 = .ok (.aload_n 0, 1) := by decide +kernel
theorem dX9_reads_137 : decode cX9_reads 137 = .ok (.getfield 71, 3) := by decide +kernel
theorem dX9_reads_140 : decode cX9_reads 140 = .ok (.iload_n 2, 1) := by decide +kernel
theorem dX9_reads_141 : decode cX9_reads 141 = .ok (.baload, 1) := by decide +kernel
theorem dX9_reads_142 : decode cX9_reads 142 = .ok (.ifCond .ne 113, 3) := by decide +kernel
theorem dX9_reads_145 : decode cX9_reads 145 = .ok (.aload_n 0, 1) := by decide +kernel
theorem dX9_reads_146 : decode cX9_reads 146 = .ok (.iconst 0, 1) := by decide +kernel
theorem dX9_reads_147 : decode cX9_reads 147 = .ok (.iload_n 2, 1) := by decide +kernel
theorem dX9_reads_148 : decode cX9_reads 148 = .ok (.aload_n 0, 1) := by decide +kernel
theorem dX9_reads_149 : decode cX9_reads 149 = .ok (.getfield 49, 3) := by decide +kernel
theorem dX9_reads_152 : decode cX9_reads 152 = .ok (.iload_n 2, 1) := by decide +kernel
theorem dX9_reads_153 : decode cX9_reads 153 = .ok (.iaload, 1) := by decide +kernel
theorem dX9_reads_154 : decode cX9_reads 154 = .ok (.aload_n 0, 1) := by decide +kernel
theorem dX9_reads_155 : decode cX9_reads 155 = .ok (.getfield 52, 3) := by decide +kernel
theorem dX9_reads_158 : decode cX9_reads 158 = .ok (.iload_n 2, 1) := by decide +kernel
theorem dX9_reads_159 : decode cX9_reads 159 = .ok (.iaload, 1) := by decide +kernel
theorem dX9_reads_160 : decode cX9_reads 160 = .ok (.invokevirtual 195, 3) := by decide +kernel
theorem dX9_reads_163 : decode cX9_reads 163 = .ok (.pop, 1) := by decide +kernel
theorem dX9_reads_164 : decode cX9_reads 164 = .ok (.goto 91, 3) := by decide +kernel
theorem dX9_reads_167 : decode cX9_reads 167 = .ok (.aload_n 0, 1) := by decide +kernel
theorem dX9_reads_168 : decode cX9_reads 168 = .ok (.getfield 86, 3) := by decide +kernel
theorem dX9_reads_171 : decode cX9_reads 171 = .ok (.iload_n 1, 1) := by decide +kernel
theorem dX9_reads_172 : decode cX9_reads 172 = .ok (.iaload, 1) := by decide +kernel
theorem dX9_reads_173 : decode cX9_reads 173 = .ok (.iconst 1, 1) := by decide +kernel
theorem dX9_reads_174 : decode cX9_reads 174 = .ok (.if_icmp .ne 54, 3) := by decide +kernel
theorem dX9_reads_177 : decode cX9_reads 177 = .ok (.aload_n 0, 1) := by decide +kernel
theorem dX9_reads_178 : decode cX9_reads 178 = .ok (.getfield 68, 3) := by decide +kernel
theorem dX9_reads_181 : decode cX9_reads 181 = .ok (.iload_n 2, 1) := by decide +kernel
theorem dX9_reads_182 : decode cX9_reads 182 = .ok (.baload, 1) := by decide +kernel
theorem dX9_reads_183 : decode cX9_reads 183 = .ok (.ifCond .eq 16, 3) := by decide +kernel
theorem dX9_reads_186 : decode cX9_reads 186 = .ok (.aload_n 0, 1) := by decide +kernel
theorem dX9_reads_187 : decode cX9_reads 187 = .ok (.dup, 1) := by decide +kernel
theorem dX9_reads_188 : decode cX9_reads 188 = .ok (.getfield 211, 3) := by decide +kernel
theorem dX9_reads_191 : decode cX9_reads 191 = .ok (.iconst 1, 1) := by decide +kernel
theorem dX9_reads_192 : decode cX9_reads 192 = .ok (.iadd, 1) := by decide +kernel
theorem dX9_reads_193 : decode cX9_reads 193 = .ok (.putfield 211, 3) := by decide +kernel
theorem dX9_reads_196 : decode cX9_reads 196 = .ok (.goto 59, 3) := by decide +kernel
theorem dX9_reads_199 : decode cX9_reads 199 = .ok (.aload_n 0, 1) := by decide +kernel
theorem dX9_reads_200 : decode cX9_reads 200 = .ok (.getfield 71, 3) := by decide +kernel
theorem dX9_reads_203 : decode cX9_reads 203 = .ok (.iload_n 2, 1) := by decide +kernel
theorem dX9_reads_204 : decode cX9_reads 204 = .ok (.iconst 1, 1) := by decide +kernel
theorem dX9_reads_205 : decode cX9_reads 205 = .ok (.bastore, 1) := by decide +kernel
theorem dX9_reads_206 : decode cX9_reads 206 = .ok (.aload_n 0, 1) := by decide +kernel
theorem dX9_reads_207 : decode cX9_reads 207 = .ok (.iconst 2, 1) := by decide +kernel
theorem dX9_reads_208 : decode cX9_reads 208 = .ok (.iload_n 2, 1) := by decide +kernel
theorem dX9_reads_209 : decode cX9_reads 209 = .ok (.aload_n 0, 1) := by decide +kernel
theorem dX9_reads_210 : decode cX9_reads 210 = .ok (.getfield 52, 3) := by decide +kernel
theorem dX9_reads_213 : decode cX9_reads 213 = .ok (.iload_n 2, 1) := by decide +kernel
theorem dX9_reads_214 : decode cX9_reads 214 = .ok (.iaload, 1) := by decide +kernel
theorem dX9_reads_215 : decode cX9_reads 215 = .ok (.aload_n 0, 1) := by decide +kernel
theorem dX9_reads_216 : decode cX9_reads 216 = .ok (.getfield 49, 3) := by decide +kernel
theorem dX9_reads_219 : decode cX9_reads 219 = .ok (.iload_n 2, 1) := by decide +kernel
theorem dX9_reads_220 : decode cX9_reads 220 = .ok (.iaload, 1) := by decide +kernel
theorem dX9_reads_221 : decode cX9_reads 221 = .ok (.invokevirtual 195, 3) := by decide +kernel
theorem dX9_reads_224 : decode cX9_reads 224 = .ok (.pop, 1) := by decide +kernel
theorem dX9_reads_225 : decode cX9_reads 225 = .ok (.goto 30, 3) := by decide +kernel
theorem dX9_reads_228 : decode cX9_reads 228 = .ok (.aload_n 0, 1) := by decide +kernel
theorem dX9_reads_229 : decode cX9_reads 229 = .ok (.getfield 9, 3) := by decide +kernel
theorem dX9_reads_232 : decode cX9_reads 232 = .ok (.aload_n 0, 1) := by decide +kernel
theorem dX9_reads_233 : decode cX9_reads 233 = .ok (.getfield 49, 3) := by decide +kernel
theorem dX9_reads_236 : decode cX9_reads 236 = .ok (.iload_n 2, 1) := by decide +kernel
theorem dX9_reads_237 : decode cX9_reads 237 = .ok (.iaload, 1) := by decide +kernel
theorem dX9_reads_238 : decode cX9_reads 238 = .ok (.dup2, 1) := by decide +kernel
theorem dX9_reads_239 : decode cX9_reads 239 = .ok (.iaload, 1) := by decide +kernel
theorem dX9_reads_240 : decode cX9_reads 240 = .ok (.aload_n 0, 1) := by decide +kernel
theorem dX9_reads_241 : decode cX9_reads 241 = .ok (.getfield 55, 3) := by decide +kernel
theorem dX9_reads_244 : decode cX9_reads 244 = .ok (.iload_n 2, 1) := by decide +kernel
theorem dX9_reads_245 : decode cX9_reads 245 = .ok (.iaload, 1) := by decide +kernel
theorem dX9_reads_246 : decode cX9_reads 246 = .ok (.isub, 1) := by decide +kernel
theorem dX9_reads_247 : decode cX9_reads 247 = .ok (.iastore, 1) := by decide +kernel
theorem dX9_reads_248 : decode cX9_reads 248 = .ok (.aload_n 0, 1) := by decide +kernel
theorem dX9_reads_249 : decode cX9_reads 249 = .ok (.getfield 74, 3) := by decide +kernel
theorem dX9_reads_252 : decode cX9_reads 252 = .ok (.iload_n 2, 1) := by decide +kernel
theorem dX9_reads_253 : decode cX9_reads 253 = .ok (.iconst 1, 1) := by decide +kernel
theorem dX9_reads_254 : decode cX9_reads 254 = .ok (.bastore, 1) := by decide +kernel
theorem dX9_reads_255 : decode cX9_reads 255 = .ok (.return_, 1) := by decide +kernel
theorem mcX9_reads : x_mc yX9_reads cX9_reads 3 none 1 := ⟨wd_861, wd_4, by decide +kernel⟩
set_option maxHeartbeats 4000000 in
set_option maxRecDepth 100000 in
theorem kX9_reads (l : Launch) (base : Nat) (D : va_G) (dA : Nat → ClassId) (F : Nat) (r0 : Option Nat) (x1 : Int32) : x_Met l base D dA yX9_reads cX9_reads 3 none 4 95 [va_rf r0, .int x1] (mX9_reads F r0 x1) (fun _ => none) := by
  refine x_Met.of [(0, .inr (.inl r0)), (1, .inl x1)] (by decide) (Nat.le_of_ble_eq_true rfl) rfl rfl ?_
  intro p e R s m args below meth c σ a τ ls hfr hlo E hr hk hn S hM hl
  have E : x_E p s m args c cX9_reads 3 "WireMoneyModel" D dA := E
  unfold mX9_reads at hM
  refine w_aload_n E hl 0 dX9_reads_0 rfl ?_
  refine w_rR E S hM lk_9_89 rfl dX9_reads_1 (fun v1 hM => ?_)
  refine w_iload_n E hl 1 dX9_reads_4 rfl ?_
  refine w_aI E S hM dX9_reads_5 (fun v5 hM => ?_)
  refine w_istore_n (lt' := [(2, .inl v5), (0, .inr (.inl r0)), (1, .inl x1)]) E hl dX9_reads_6 (by decide) rfl (fun ls hl => ?_)
  refine w_aload_n E hl 1 dX9_reads_7 rfl ?_
  refine w_rR E S hM lk_9_98 rfl dX9_reads_8 (fun v8 hM => ?_)
  refine w_iload_n E hl 2 dX9_reads_11 rfl ?_
  refine lv_iconst (v := (2 : Int32)) E.1 E.2.1 dX9_reads_12 (by decide) ?_
  refine w_sI E S hM dX9_reads_13 (fun σ H locs S hM => ?_)
  refine w_aload_n E hl 1 dX9_reads_14 rfl ?_
  refine w_rR E S hM lk_9_101 rfl dX9_reads_15 (fun v15 hM => ?_)
  refine w_iload_n E hl 2 dX9_reads_18 rfl ?_
  refine w_aload_n E hl 1 dX9_reads_19 rfl ?_
  refine w_rR E S hM lk_9_95 rfl dX9_reads_20 (fun v20 hM => ?_)
  refine w_iload_n E hl 2 dX9_reads_23 rfl ?_
  refine w_aI E S hM dX9_reads_24 (fun v24 hM => ?_)
  refine w_sI E S hM dX9_reads_25 (fun σ H locs S hM => ?_)
  refine w_aload_n E hl 1 dX9_reads_26 rfl ?_
  refine w_rR E S hM lk_9_113 rfl dX9_reads_27 (fun v27 hM => ?_)
  refine w_iload_n E hl 2 dX9_reads_30 rfl ?_
  refine w_aload_n E hl 1 dX9_reads_31 rfl ?_
  refine w_rI E S hM lk_9_146 rfl dX9_reads_32 (fun v32 hM => ?_)
  refine w_sI E S hM dX9_reads_35 (fun σ H locs S hM => ?_)
  refine w_aload_n E hl 1 dX9_reads_36 rfl ?_
  refine w_rR E S hM lk_9_86 rfl dX9_reads_37 (fun v37 hM => ?_)
  refine w_iload_n E hl 2 dX9_reads_40 rfl ?_
  refine w_aI E S hM dX9_reads_41 (fun v41 hM => ?_)
  refine lv_if_ne (tgt := 117) E.1 E.2.1 dX9_reads_42 (by decide) (fun c42 => ?_) (fun c42 => ?_)
  · replace hM := x_okF hM c42
    refine w_aload_n E hl 1 dX9_reads_117 rfl ?_
    refine w_rR E S hM lk_9_86 rfl dX9_reads_118 (fun v118 hM => ?_)
    refine w_iload_n E hl 2 dX9_reads_121 rfl ?_
    refine w_aI E S hM dX9_reads_122 (fun v122 hM => ?_)
    refine lv_iconst (v := (3 : Int32)) E.1 E.2.1 dX9_reads_123 (by decide) ?_
    refine lv_icmp_ne (tgt := 167) E.1 E.2.1 dX9_reads_124 (by decide) (fun c124 => ?_) (fun c124 => ?_)
    · replace hM := x_okF hM c124
      refine w_aload_n E hl 1 dX9_reads_167 rfl ?_
      refine w_rR E S hM lk_9_86 rfl dX9_reads_168 (fun v168 hM => ?_)
      refine w_iload_n E hl 2 dX9_reads_171 rfl ?_
      refine w_aI E S hM dX9_reads_172 (fun v172 hM => ?_)
      refine lv_iconst (v := (1 : Int32)) E.1 E.2.1 dX9_reads_173 (by decide) ?_
      refine lv_icmp_ne (tgt := 228) E.1 E.2.1 dX9_reads_174 (by decide) (fun c174 => ?_) (fun c174 => ?_)
      · replace hM := x_okF hM c174
        refine w_aload_n E hl 1 dX9_reads_228 rfl ?_
        refine w_rR E S hM lk_9_9 rfl dX9_reads_229 (fun v229 hM => ?_)
        refine w_aload_n E hl 1 dX9_reads_232 rfl ?_
        refine w_rR E S hM lk_9_49 rfl dX9_reads_233 (fun v233 hM => ?_)
        refine w_iload_n E hl 0 dX9_reads_236 rfl ?_
        refine w_aI E S hM dX9_reads_237 (fun v237 hM => ?_)
        refine lv_dup2_11 E.1 E.2.1 dX9_reads_238 rfl (x_cat _) ?_
        refine w_aI E S hM dX9_reads_239 (fun v239 hM => ?_)
        refine w_aload_n E hl 1 dX9_reads_240 rfl ?_
        refine w_rR E S hM lk_9_55 rfl dX9_reads_241 (fun v241 hM => ?_)
        refine w_iload_n E hl 0 dX9_reads_244 rfl ?_
        refine w_aI E S hM dX9_reads_245 (fun v245 hM => ?_)
        refine lv_isub E.1 E.2.1 dX9_reads_246 ?_
        refine w_sI E S hM dX9_reads_247 (fun σ H locs S hM => ?_)
        refine w_aload_n E hl 1 dX9_reads_248 rfl ?_
        refine w_rR E S hM lk_9_74 rfl dX9_reads_249 (fun v249 hM => ?_)
        refine w_iload_n E hl 0 dX9_reads_252 rfl ?_
        refine lv_iconst (v := (1 : Int32)) E.1 E.2.1 dX9_reads_253 (by decide) ?_
        refine w_sZ E S hM dX9_reads_254 (fun σ H locs S hM => ?_)
        exact w_vret E S hM hr hk dX9_reads_255
      · replace hM := x_okT hM c174
        refine w_aload_n E hl 1 dX9_reads_177 rfl ?_
        refine w_rR E S hM lk_9_68 rfl dX9_reads_178 (fun v178 hM => ?_)
        refine w_iload_n E hl 0 dX9_reads_181 rfl ?_
        refine w_aZ E S hM dX9_reads_182 (fun v182 hM => ?_)
        refine lv_if_eq (tgt := 199) E.1 E.2.1 dX9_reads_183 (by decide) (fun c183 => ?_) (fun c183 => ?_)
        · replace hM := x_okT hM c183
          refine w_aload_n E hl 1 dX9_reads_199 rfl ?_
          refine w_rR E S hM lk_9_71 rfl dX9_reads_200 (fun v200 hM => ?_)
          refine w_iload_n E hl 0 dX9_reads_203 rfl ?_
          refine lv_iconst (v := (1 : Int32)) E.1 E.2.1 dX9_reads_204 (by decide) ?_
          refine w_sZ E S hM dX9_reads_205 (fun σ H locs S hM => ?_)
          refine w_aload_n E hl 1 dX9_reads_206 rfl ?_
          refine lv_iconst (v := (2 : Int32)) E.1 E.2.1 dX9_reads_207 (by decide) ?_
          refine w_iload_n E hl 0 dX9_reads_208 rfl ?_
          refine w_aload_n E hl 1 dX9_reads_209 rfl ?_
          refine w_rR E S hM lk_9_52 rfl dX9_reads_210 (fun v210 hM => ?_)
          refine w_iload_n E hl 0 dX9_reads_213 rfl ?_
          refine w_aI E S hM dX9_reads_214 (fun v214 hM => ?_)
          refine w_aload_n E hl 1 dX9_reads_215 rfl ?_
          refine w_rR E S hM lk_9_49 rfl dX9_reads_216 (fun v216 hM => ?_)
          refine w_iload_n E hl 0 dX9_reads_219 rfl ?_
          refine w_aI E S hM dX9_reads_220 (fun v220 hM => ?_)
          refine w_cVi (rest := []) E S hl hM (kX9_writes l base D dA F r0 (2 : Int32) v5 v214 v220) mcX9_writes ⟨by decide, rfl, wd_800, wd_802, wp_24⟩ hfr hlo (by decide) rfl (Nat.le_of_ble_eq_true rfl) dX9_reads_221 rfl (fun v221 σ H locs S hM => ?_)
          refine lv_pop E.1 E.2.1 dX9_reads_224 rfl ?_
          refine lv_goto (tgt := 255) E.1 E.2.1 dX9_reads_225 (by decide) ?_
          exact w_vret E S hM hr hk dX9_reads_255
        · replace hM := x_okF hM c183
          refine w_aload_n E hl 1 dX9_reads_186 rfl ?_
          refine lv_dup E.1 E.2.1 dX9_reads_187 (x_cat _) ?_
          refine w_rI E S hM lk_9_211 rfl dX9_reads_188 (fun v188 hM => ?_)
          refine lv_iconst (v := (1 : Int32)) E.1 E.2.1 dX9_reads_191 (by decide) ?_
          refine lv_iadd E.1 E.2.1 dX9_reads_192 ?_
          refine w_wI E S hM lk_9_211 rfl (Or.inl rfl) dX9_reads_193 (fun σ H locs S hM => ?_)
          refine lv_goto (tgt := 255) E.1 E.2.1 dX9_reads_196 (by decide) ?_
          exact w_vret E S hM hr hk dX9_reads_255
    · replace hM := x_okT hM c124
      refine w_aload_n E hl 1 dX9_reads_127 rfl ?_
      refine w_rR E S hM lk_9_68 rfl dX9_reads_128 (fun v128 hM => ?_)
      refine w_iload_n E hl 0 dX9_reads_131 rfl ?_
      refine w_aZ E S hM dX9_reads_132 (fun v132 hM => ?_)
      refine lv_if_ne (tgt := 255) E.1 E.2.1 dX9_reads_133 (by decide) (fun c133 => ?_) (fun c133 => ?_)
      · replace hM := x_okF hM c133
        exact w_vret E S hM hr hk dX9_reads_255
      · replace hM := x_okT hM c133
        refine w_aload_n E hl 1 dX9_reads_136 rfl ?_
        refine w_rR E S hM lk_9_71 rfl dX9_reads_137 (fun v137 hM => ?_)
        refine w_iload_n E hl 0 dX9_reads_140 rfl ?_
        refine w_aZ E S hM dX9_reads_141 (fun v141 hM => ?_)
        refine lv_if_ne (tgt := 255) E.1 E.2.1 dX9_reads_142 (by decide) (fun c142 => ?_) (fun c142 => ?_)
        · replace hM := x_okF hM c142
          exact w_vret E S hM hr hk dX9_reads_255
        · replace hM := x_okT hM c142
          refine w_aload_n E hl 1 dX9_reads_145 rfl ?_
          refine lv_iconst (v := (0 : Int32)) E.1 E.2.1 dX9_reads_146 (by decide) ?_
          refine w_iload_n E hl 0 dX9_reads_147 rfl ?_
          refine w_aload_n E hl 1 dX9_reads_148 rfl ?_
          refine w_rR E S hM lk_9_49 rfl dX9_reads_149 (fun v149 hM => ?_)
          refine w_iload_n E hl 0 dX9_reads_152 rfl ?_
          refine w_aI E S hM dX9_reads_153 (fun v153 hM => ?_)
          refine w_aload_n E hl 1 dX9_reads_154 rfl ?_
          refine w_rR E S hM lk_9_52 rfl dX9_reads_155 (fun v155 hM => ?_)
          refine w_iload_n E hl 0 dX9_reads_158 rfl ?_
          refine w_aI E S hM dX9_reads_159 (fun v159 hM => ?_)
          refine w_cVi (rest := []) E S hl hM (kX9_writes l base D dA F r0 (0 : Int32) v5 v153 v159) mcX9_writes ⟨by decide, rfl, wd_800, wd_802, wp_24⟩ hfr hlo (by decide) rfl (Nat.le_of_ble_eq_true rfl) dX9_reads_160 rfl (fun v160 σ H locs S hM => ?_)
          refine lv_pop E.1 E.2.1 dX9_reads_163 rfl ?_
          refine lv_goto (tgt := 255) E.1 E.2.1 dX9_reads_164 (by decide) ?_
          exact w_vret E S hM hr hk dX9_reads_255
  · replace hM := x_okT hM c42
    refine w_aload_n E hl 1 dX9_reads_45 rfl ?_
    refine w_iload_n E hl 2 dX9_reads_46 rfl ?_
    refine w_cVi (rest := []) E S hl hM (kX9_testOf l base D dA F r0 x1) mcX9_testOf ⟨by decide, rfl, wd_807, wd_809, wp_25⟩ hfr hlo (by decide) rfl (Nat.le_of_ble_eq_true rfl) dX9_reads_47 rfl (fun v47 σ H locs S hM => ?_)
    refine w_aload_n E hl 1 dX9_reads_50 rfl ?_
    refine w_rR E S hM lk_9_122 rfl dX9_reads_51 (fun v51 hM => ?_)
    refine w_iload_n E hl 2 dX9_reads_54 rfl ?_
    refine w_aI E S hM dX9_reads_55 (fun v55 hM => ?_)
    refine lv_icmp_eq (tgt := 98) E.1 E.2.1 dX9_reads_56 (by decide) (fun c56 => ?_) (fun c56 => ?_)
    · replace hM := x_okT hM c56
      refine w_aload_n E hl 1 dX9_reads_98 rfl ?_
      refine w_rR E S hM lk_9_71 rfl dX9_reads_99 (fun v99 hM => ?_)
      refine w_iload_n E hl 0 dX9_reads_102 rfl ?_
      refine w_aZ E S hM dX9_reads_103 (fun v103 hM => ?_)
      refine lv_if_ne (tgt := 255) E.1 E.2.1 dX9_reads_104 (by decide) (fun c104 => ?_) (fun c104 => ?_)
      · replace hM := x_okF hM c104
        exact w_vret E S hM hr hk dX9_reads_255
      · replace hM := x_okT hM c104
        refine w_aload_n E hl 1 dX9_reads_107 rfl ?_
        refine w_rR E S hM lk_9_64 rfl dX9_reads_108 (fun v108 hM => ?_)
        refine w_iload_n E hl 0 dX9_reads_111 rfl ?_
        refine lv_iconst (v := (1 : Int32)) E.1 E.2.1 dX9_reads_112 (by decide) ?_
        refine w_sZ E S hM dX9_reads_113 (fun σ H locs S hM => ?_)
        refine lv_goto (tgt := 255) E.1 E.2.1 dX9_reads_114 (by decide) ?_
        exact w_vret E S hM hr hk dX9_reads_255
    · replace hM := x_okF hM c56
      refine w_aload_n E hl 1 dX9_reads_59 rfl ?_
      refine w_rR E S hM lk_9_116 rfl dX9_reads_60 (fun v60 hM => ?_)
      refine w_iload_n E hl 2 dX9_reads_63 rfl ?_
      refine lv_iconst (v := (1 : Int32)) E.1 E.2.1 dX9_reads_64 (by decide) ?_
      refine w_sZ E S hM dX9_reads_65 (fun σ H locs S hM => ?_)
      refine w_aload_n E hl 1 dX9_reads_66 rfl ?_
      refine lv_dup E.1 E.2.1 dX9_reads_67 (x_cat _) ?_
      refine w_rI E S hM lk_9_208 rfl dX9_reads_68 (fun v68 hM => ?_)
      refine lv_iconst (v := (1 : Int32)) E.1 E.2.1 dX9_reads_71 (by decide) ?_
      refine lv_iadd E.1 E.2.1 dX9_reads_72 ?_
      refine w_wI E S hM lk_9_208 rfl (Or.inl rfl) dX9_reads_73 (fun σ H locs S hM => ?_)
      refine w_aload_n E hl 1 dX9_reads_76 rfl ?_
      refine lv_iconst (v := (3 : Int32)) E.1 E.2.1 dX9_reads_77 (by decide) ?_
      refine w_iload_n E hl 0 dX9_reads_78 rfl ?_
      refine w_aload_n E hl 1 dX9_reads_79 rfl ?_
      refine w_rR E S hM lk_9_52 rfl dX9_reads_80 (fun v80 hM => ?_)
      refine w_iload_n E hl 0 dX9_reads_83 rfl ?_
      refine w_aI E S hM dX9_reads_84 (fun v84 hM => ?_)
      refine w_aload_n E hl 1 dX9_reads_85 rfl ?_
      refine w_rR E S hM lk_9_49 rfl dX9_reads_86 (fun v86 hM => ?_)
      refine w_iload_n E hl 0 dX9_reads_89 rfl ?_
      refine w_aI E S hM dX9_reads_90 (fun v90 hM => ?_)
      refine w_cVi (rest := []) E S hl hM (kX9_writes l base D dA F r0 (3 : Int32) v5 v84 v90) mcX9_writes ⟨by decide, rfl, wd_800, wd_802, wp_24⟩ hfr hlo (by decide) rfl (Nat.le_of_ble_eq_true rfl) dX9_reads_91 rfl (fun v91 σ H locs S hM => ?_)
      refine lv_pop E.1 E.2.1 dX9_reads_94 rfl ?_
      refine lv_goto (tgt := 255) E.1 E.2.1 dX9_reads_95 (by decide) ?_
      exact w_vret E S hM hr hk dX9_reads_255
theorem dX9_firstOf_0 : decode cX9_firstOf 0 = .ok (.iconst (-1), 1) := by decide +kernel
theorem dX9_firstOf_1 : decode cX9_firstOf 1 = .ok (.istore_n 3, 1) := by decide +kernel
theorem dX9_firstOf_2 : decode cX9_firstOf 2 = .ok (.iconst 0, 1) := by decide +kernel
theorem dX9_firstOf_3 : decode cX9_firstOf 3 = .ok (.istore 4, 2) := by decide +kernel
theorem dX9_firstOf_5 : decode cX9_firstOf 5 = .ok (.iload 4, 2) := by decide +kernel
theorem dX9_firstOf_7 : decode cX9_firstOf 7 = .ok (.aload_n 0, 1) := by decide +kernel
theorem dX9_firstOf_8 : decode cX9_firstOf 8 = .ok (.getfield 173, 3) := by decide +kernel
theorem dX9_firstOf_11 : decode cX9_firstOf 11 = .ok (.if_icmp .ge 68, 3) := by decide +kernel
theorem dX9_firstOf_14 : decode cX9_firstOf 14 = .ok (.aload_n 0, 1) := by decide +kernel
theorem dX9_firstOf_15 : decode cX9_firstOf 15 = .ok (.getfield 98, 3) := by decide +kernel
theorem dX9_firstOf_18 : decode cX9_firstOf 18 = .ok (.iload 4, 2) := by decide +kernel
theorem dX9_firstOf_20 : decode cX9_firstOf 20 = .ok (.iaload, 1) := by decide +kernel
theorem dX9_firstOf_21 : decode cX9_firstOf 21 = .ok (.ifCond .ne 52, 3) := by decide +kernel
theorem dX9_firstOf_24 : decode cX9_firstOf 24 = .ok (.aload_n 0, 1) := by decide +kernel
theorem dX9_firstOf_25 : decode cX9_firstOf 25 = .ok (.getfield 104, 3) := by decide +kernel
theorem dX9_firstOf_28 : decode cX9_firstOf 28 = .ok (.iload 4, 2) := by decide +kernel
theorem dX9_firstOf_30 : decode cX9_firstOf 30 = .ok (.iaload, 1) := by decide +kernel
theorem dX9_firstOf_31 : decode cX9_firstOf 31 = .ok (.iload_n 1, 1) := by decide +kernel
theorem dX9_firstOf_32 : decode cX9_firstOf 32 = .ok (.if_icmp .ne 41, 3) := by decide +kernel
theorem dX9_firstOf_35 : decode cX9_firstOf 35 = .ok (.aload_n 0, 1) := by decide +kernel
theorem dX9_firstOf_36 : decode cX9_firstOf 36 = .ok (.getfield 101, 3) := by decide +kernel
theorem dX9_firstOf_39 : decode cX9_firstOf 39 = .ok (.iload 4, 2) := by decide +kernel
theorem dX9_firstOf_41 : decode cX9_firstOf 41 = .ok (.iaload, 1) := by decide +kernel
theorem dX9_firstOf_42 : decode cX9_firstOf 42 = .ok (.iload_n 2, 1) := by decide +kernel
theorem dX9_firstOf_43 : decode cX9_firstOf 43 = .ok (.if_icmp .eq 6, 3) := by decide +kernel
theorem dX9_firstOf_46 : decode cX9_firstOf 46 = .ok (.goto 27, 3) := by decide +kernel
theorem dX9_firstOf_49 : decode cX9_firstOf 49 = .ok (.iload_n 3, 1) := by decide +kernel
theorem dX9_firstOf_50 : decode cX9_firstOf 50 = .ok (.iconst (-1), 1) := by decide +kernel
theorem dX9_firstOf_51 : decode cX9_firstOf 51 = .ok (.if_icmp .eq 19, 3) := by decide +kernel
theorem dX9_firstOf_54 : decode cX9_firstOf 54 = .ok (.aload_n 0, 1) := by decide +kernel
theorem dX9_firstOf_55 : decode cX9_firstOf 55 = .ok (.getfield 107, 3) := by decide +kernel
theorem dX9_firstOf_58 : decode cX9_firstOf 58 = .ok (.iload 4, 2) := by decide +kernel
theorem dX9_firstOf_60 : decode cX9_firstOf 60 = .ok (.iaload, 1) := by decide +kernel
theorem dX9_firstOf_61 : decode cX9_firstOf 61 = .ok (.aload_n 0, 1) := by decide +kernel
theorem dX9_firstOf_62 : decode cX9_firstOf 62 = .ok (.getfield 107, 3) := by decide +kernel
theorem dX9_firstOf_65 : decode cX9_firstOf 65 = .ok (.iload_n 3, 1) := by decide +kernel
theorem dX9_firstOf_66 : decode cX9_firstOf 66 = .ok (.iaload, 1) := by decide +kernel
theorem dX9_firstOf_67 : decode cX9_firstOf 67 = .ok (.if_icmp .ge 6, 3) := by decide +kernel
theorem dX9_firstOf_70 : decode cX9_firstOf 70 = .ok (.iload 4, 2) := by decide +kernel
theorem dX9_firstOf_72 : decode cX9_firstOf 72 = .ok (.istore_n 3, 1) := by decide +kernel
theorem dX9_firstOf_73 : decode cX9_firstOf 73 = .ok (.iinc 4 1, 3) := by decide +kernel
theorem dX9_firstOf_76 : decode cX9_firstOf 76 = .ok (.goto (-71), 3) := by decide +kernel
theorem dX9_firstOf_79 : decode cX9_firstOf 79 = .ok (.iload_n 3, 1) := by decide +kernel
theorem dX9_firstOf_80 : decode cX9_firstOf 80 = .ok (.ireturn, 1) := by decide +kernel
set_option maxHeartbeats 4000000 in
set_option maxRecDepth 100000 in
theorem bX9_firstOf_5 {p : Program} {l : Launch} {e : Env} {R : Room} {s : State} {m : MethodId} {args : Array Value} {below : List Frame} {meth : Method} {c : Code} {base : Nat} {D : va_G} {dA : Nat → ClassId} {σ0 : PH} {z : Int32 × PH} {F : Nat} (E : x_E p s m args c cX9_firstOf 5 "WireMoneyModel" D dA) (hr : meth.sig.returnType = (some .int)) (hk : meth.locks = false) (hfr : R.frames = 0) (hlo : R.locals = 0) : ∀ (n : Nat) (y0 : Option Nat) (y1 : Int32) (y2 : Int32) (y3 : Int32) (y4 : Int32) (σ : PH) (H : Heap) (locs : List Loc) (ls : Array Slot), x_S base D dA R s σ0 z.2 σ H locs → x_rn (mX9_firstOf_5 F n y0 y1 y2 y3 y4) σ = some z → x_lv ls 5 [(0, .inr (.inl y0)), (1, .inl y1), (2, .inl y2), (3, .inl y3), (4, .inl y4)] → W p l e R s m args below meth c H locs (x_N σ - x_N σ0) (x_U σ - x_U σ0) (x_end below args s base D dA (fun x => some (.int x)) σ0 z) (F0 m 5 ls []) := by
  intro n
  induction n with
  | zero =>
    intro y0 y1 y2 y3 y4 σ H locs ls S hM hl
    cases hM
  | succ n ih =>
    intro y0 y1 y2 y3 y4 σ H locs ls S hM hl
    rw [mX9_firstOf_5] at hM
    refine w_iload E hl 4 dX9_firstOf_5 rfl ?_
    refine w_aload_n E hl 0 dX9_firstOf_7 rfl ?_
    refine w_rI E S hM lk_9_173 rfl dX9_firstOf_8 (fun v8 hM => ?_)
    refine lv_icmp_ge (tgt := 79) E.1 E.2.1 dX9_firstOf_11 (by decide) (fun c11 => ?_) (fun c11 => ?_)
    · replace hM := x_okT hM c11
      refine w_iload_n E hl 3 dX9_firstOf_79 rfl ?_
      exact w_iret E S hM hr hk dX9_firstOf_80
    · replace hM := x_okF hM c11
      refine w_aload_n E hl 0 dX9_firstOf_14 rfl ?_
      refine w_rR E S hM lk_9_98 rfl dX9_firstOf_15 (fun v15 hM => ?_)
      refine w_iload E hl 4 dX9_firstOf_18 rfl ?_
      refine w_aI E S hM dX9_firstOf_20 (fun v20 hM => ?_)
      refine lv_if_ne (tgt := 73) E.1 E.2.1 dX9_firstOf_21 (by decide) (fun c21 => ?_) (fun c21 => ?_)
      · replace hM := x_okF hM c21
        refine w_iincN (ltf := fun v73 => [(4, .inl v73), (0, .inr (.inl y0)), (1, .inl y1), (2, .inl y2), (3, .inl y3)]) E hl 4 hM dX9_firstOf_73 rfl (by decide) (by decide) (fun _ => rfl) (fun v73 ls hM hl => ?_)
        refine lv_goto (tgt := 5) E.1 E.2.1 dX9_firstOf_76 (by decide) ?_
        exact ih y0 y1 y2 y3 v73 _ _ _ _ S hM (x_lv_sub hl [1, 2, 3, 4, 0] rfl)
      · replace hM := x_okT hM c21
        refine w_aload_n E hl 0 dX9_firstOf_24 rfl ?_
        refine w_rR E S hM lk_9_104 rfl dX9_firstOf_25 (fun v25 hM => ?_)
        refine w_iload E hl 4 dX9_firstOf_28 rfl ?_
        refine w_aI E S hM dX9_firstOf_30 (fun v30 hM => ?_)
        refine w_iload_n E hl 1 dX9_firstOf_31 rfl ?_
        refine lv_icmp_ne (tgt := 73) E.1 E.2.1 dX9_firstOf_32 (by decide) (fun c32 => ?_) (fun c32 => ?_)
        · replace hM := x_okF hM c32
          refine w_iincN (ltf := fun v73 => [(4, .inl v73), (0, .inr (.inl y0)), (1, .inl y1), (2, .inl y2), (3, .inl y3)]) E hl 4 hM dX9_firstOf_73 rfl (by decide) (by decide) (fun _ => rfl) (fun v73 ls hM hl => ?_)
          refine lv_goto (tgt := 5) E.1 E.2.1 dX9_firstOf_76 (by decide) ?_
          exact ih y0 y1 y2 y3 v73 _ _ _ _ S hM (x_lv_sub hl [1, 2, 3, 4, 0] rfl)
        · replace hM := x_okT hM c32
          refine w_aload_n E hl 0 dX9_firstOf_35 rfl ?_
          refine w_rR E S hM lk_9_101 rfl dX9_firstOf_36 (fun v36 hM => ?_)
          refine w_iload E hl 4 dX9_firstOf_39 rfl ?_
          refine w_aI E S hM dX9_firstOf_41 (fun v41 hM => ?_)
          refine w_iload_n E hl 2 dX9_firstOf_42 rfl ?_
          refine lv_icmp_eq (tgt := 49) E.1 E.2.1 dX9_firstOf_43 (by decide) (fun c43 => ?_) (fun c43 => ?_)
          · replace hM := x_okT hM c43
            refine w_iload_n E hl 3 dX9_firstOf_49 rfl ?_
            refine lv_iconst (v := (-1 : Int32)) E.1 E.2.1 dX9_firstOf_50 (by decide) ?_
            refine lv_icmp_eq (tgt := 70) E.1 E.2.1 dX9_firstOf_51 (by decide) (fun c51 => ?_) (fun c51 => ?_)
            · replace hM := x_okT hM c51
              refine w_iload E hl 4 dX9_firstOf_70 rfl ?_
              refine w_istore_n (lt' := [(3, .inl y4), (0, .inr (.inl y0)), (1, .inl y1), (2, .inl y2), (4, .inl y4)]) E hl dX9_firstOf_72 (by decide) rfl (fun ls hl => ?_)
              refine w_iincN (ltf := fun v73 => [(4, .inl v73), (3, .inl y4), (0, .inr (.inl y0)), (1, .inl y1), (2, .inl y2)]) E hl 4 hM dX9_firstOf_73 rfl (by decide) (by decide) (fun _ => rfl) (fun v73 ls hM hl => ?_)
              refine lv_goto (tgt := 5) E.1 E.2.1 dX9_firstOf_76 (by decide) ?_
              exact ih y0 y1 y2 y4 v73 _ _ _ _ S hM (x_lv_sub hl [2, 3, 4, 1, 0] rfl)
            · replace hM := x_okF hM c51
              refine w_aload_n E hl 0 dX9_firstOf_54 rfl ?_
              refine w_rR E S hM lk_9_107 rfl dX9_firstOf_55 (fun v55 hM => ?_)
              refine w_iload E hl 4 dX9_firstOf_58 rfl ?_
              refine w_aI E S hM dX9_firstOf_60 (fun v60 hM => ?_)
              refine w_aload_n E hl 0 dX9_firstOf_61 rfl ?_
              refine w_rR E S hM lk_9_107 rfl dX9_firstOf_62 (fun v62 hM => ?_)
              refine w_iload_n E hl 3 dX9_firstOf_65 rfl ?_
              refine w_aI E S hM dX9_firstOf_66 (fun v66 hM => ?_)
              refine lv_icmp_ge (tgt := 73) E.1 E.2.1 dX9_firstOf_67 (by decide) (fun c67 => ?_) (fun c67 => ?_)
              · replace hM := x_okT hM c67
                refine w_iincN (ltf := fun v73 => [(4, .inl v73), (0, .inr (.inl y0)), (1, .inl y1), (2, .inl y2), (3, .inl y3)]) E hl 4 hM dX9_firstOf_73 rfl (by decide) (by decide) (fun _ => rfl) (fun v73 ls hM hl => ?_)
                refine lv_goto (tgt := 5) E.1 E.2.1 dX9_firstOf_76 (by decide) ?_
                exact ih y0 y1 y2 y3 v73 _ _ _ _ S hM (x_lv_sub hl [1, 2, 3, 4, 0] rfl)
              · replace hM := x_okF hM c67
                refine w_iload E hl 4 dX9_firstOf_70 rfl ?_
                refine w_istore_n (lt' := [(3, .inl y4), (0, .inr (.inl y0)), (1, .inl y1), (2, .inl y2), (4, .inl y4)]) E hl dX9_firstOf_72 (by decide) rfl (fun ls hl => ?_)
                refine w_iincN (ltf := fun v73 => [(4, .inl v73), (3, .inl y4), (0, .inr (.inl y0)), (1, .inl y1), (2, .inl y2)]) E hl 4 hM dX9_firstOf_73 rfl (by decide) (by decide) (fun _ => rfl) (fun v73 ls hM hl => ?_)
                refine lv_goto (tgt := 5) E.1 E.2.1 dX9_firstOf_76 (by decide) ?_
                exact ih y0 y1 y2 y4 v73 _ _ _ _ S hM (x_lv_sub hl [2, 3, 4, 1, 0] rfl)
          · replace hM := x_okF hM c43
            refine lv_goto (tgt := 73) E.1 E.2.1 dX9_firstOf_46 (by decide) ?_
            refine w_iincN (ltf := fun v73 => [(4, .inl v73), (0, .inr (.inl y0)), (1, .inl y1), (2, .inl y2), (3, .inl y3)]) E hl 4 hM dX9_firstOf_73 rfl (by decide) (by decide) (fun _ => rfl) (fun v73 ls hM hl => ?_)
            refine lv_goto (tgt := 5) E.1 E.2.1 dX9_firstOf_76 (by decide) ?_
            exact ih y0 y1 y2 y3 v73 _ _ _ _ S hM (x_lv_sub hl [1, 2, 3, 4, 0] rfl)
theorem mcX9_firstOf : x_mc yX9_firstOf cX9_firstOf 5 (some .int) 2 := ⟨wd_869, wd_4, by decide +kernel⟩
set_option maxHeartbeats 4000000 in
set_option maxRecDepth 100000 in
theorem kX9_firstOf (l : Launch) (base : Nat) (D : va_G) (dA : Nat → ClassId) (F : Nat) (r0 : Option Nat) (x1 : Int32) (x2 : Int32) : x_Met l base D dA yX9_firstOf cX9_firstOf 5 (some .int) 0 0 [va_rf r0, .int x1, .int x2] (mX9_firstOf F r0 x1 x2) (fun x => some (.int x)) := by
  refine x_Met.of [(0, .inr (.inl r0)), (1, .inl x1), (2, .inl x2)] (by decide) (Nat.le_of_ble_eq_true rfl) rfl rfl ?_
  intro p e R s m args below meth c σ a τ ls hfr hlo E hr hk hn S hM hl
  have E : x_E p s m args c cX9_firstOf 5 "WireMoneyModel" D dA := E
  unfold mX9_firstOf at hM
  refine lv_iconst (v := (-1 : Int32)) E.1 E.2.1 dX9_firstOf_0 (by decide) ?_
  refine w_istore_n (lt' := [(3, .inl (-1 : Int32)), (0, .inr (.inl r0)), (1, .inl x1), (2, .inl x2)]) E hl dX9_firstOf_1 (by decide) rfl (fun ls hl => ?_)
  refine lv_iconst (v := (0 : Int32)) E.1 E.2.1 dX9_firstOf_2 (by decide) ?_
  refine w_istore (lt' := [(4, .inl (0 : Int32)), (3, .inl (-1 : Int32)), (0, .inr (.inl r0)), (1, .inl x1), (2, .inl x2)]) E hl dX9_firstOf_3 (by decide) rfl (fun ls hl => ?_)
  exact bX9_firstOf_5 E hr hk hfr hlo F r0 x1 x2 (-1 : Int32) (0 : Int32) _ _ _ _ S hM (x_lv_sub hl [2, 3, 4, 1, 0] rfl)
theorem dX9_setsOut_0 : decode cX9_setsOut 0 = .ok (.aload_n 0, 1) := by decide +kernel
theorem dX9_setsOut_1 : decode cX9_setsOut 1 = .ok (.iload_n 1, 1) := by decide +kernel
theorem dX9_setsOut_2 : decode cX9_setsOut 2 = .ok (.iload_n 2, 1) := by decide +kernel
theorem dX9_setsOut_3 : decode cX9_setsOut 3 = .ok (.invokevirtual 221, 3) := by decide +kernel
theorem dX9_setsOut_6 : decode cX9_setsOut 6 = .ok (.istore_n 3, 1) := by decide +kernel
theorem dX9_setsOut_7 : decode cX9_setsOut 7 = .ok (.iload_n 3, 1) := by decide +kernel
theorem dX9_setsOut_8 : decode cX9_setsOut 8 = .ok (.iconst (-1), 1) := by decide +kernel
theorem dX9_setsOut_9 : decode cX9_setsOut 9 = .ok (.if_icmp .ne 4, 3) := by decide +kernel
theorem dX9_setsOut_12 : decode cX9_setsOut 12 = .ok (.return_, 1) := by decide +kernel
theorem dX9_setsOut_13 : decode cX9_setsOut 13 = .ok (.aload_n 0, 1) := by decide +kernel
theorem dX9_setsOut_14 : decode cX9_setsOut 14 = .ok (.getfield 98, 3) := by decide +kernel
theorem dX9_setsOut_17 : decode cX9_setsOut 17 = .ok (.iload_n 3, 1) := by decide +kernel
theorem dX9_setsOut_18 : decode cX9_setsOut 18 = .ok (.iconst 1, 1) := by decide +kernel
theorem dX9_setsOut_19 : decode cX9_setsOut 19 = .ok (.iastore, 1) := by decide +kernel
theorem dX9_setsOut_20 : decode cX9_setsOut 20 = .ok (.aload_n 0, 1) := by decide +kernel
theorem dX9_setsOut_21 : decode cX9_setsOut 21 = .ok (.getfield 110, 3) := by decide +kernel
theorem dX9_setsOut_24 : decode cX9_setsOut 24 = .ok (.iload_n 3, 1) := by decide +kernel
theorem dX9_setsOut_25 : decode cX9_setsOut 25 = .ok (.aload_n 0, 1) := by decide +kernel
theorem dX9_setsOut_26 : decode cX9_setsOut 26 = .ok (.getfield 146, 3) := by decide +kernel
theorem dX9_setsOut_29 : decode cX9_setsOut 29 = .ok (.aload_n 0, 1) := by decide +kernel
theorem dX9_setsOut_30 : decode cX9_setsOut 30 = .ok (.getfield 31, 3) := by decide +kernel
theorem dX9_setsOut_33 : decode cX9_setsOut 33 = .ok (.iload_n 1, 1) := by decide +kernel
theorem dX9_setsOut_34 : decode cX9_setsOut 34 = .ok (.iaload, 1) := by decide +kernel
theorem dX9_setsOut_35 : decode cX9_setsOut 35 = .ok (.iadd, 1) := by decide +kernel
theorem dX9_setsOut_36 : decode cX9_setsOut 36 = .ok (.iastore, 1) := by decide +kernel
theorem dX9_setsOut_37 : decode cX9_setsOut 37 = .ok (.aload_n 0, 1) := by decide +kernel
theorem dX9_setsOut_38 : decode cX9_setsOut 38 = .ok (.getfield 101, 3) := by decide +kernel
theorem dX9_setsOut_41 : decode cX9_setsOut 41 = .ok (.iload_n 3, 1) := by decide +kernel
theorem dX9_setsOut_42 : decode cX9_setsOut 42 = .ok (.aload_n 0, 1) := by decide +kernel
theorem dX9_setsOut_43 : decode cX9_setsOut 43 = .ok (.iload_n 1, 1) := by decide +kernel
theorem dX9_setsOut_44 : decode cX9_setsOut 44 = .ok (.iload_n 2, 1) := by decide +kernel
theorem dX9_setsOut_45 : decode cX9_setsOut 45 = .ok (.invokevirtual 156, 3) := by decide +kernel
theorem dX9_setsOut_48 : decode cX9_setsOut 48 = .ok (.iastore, 1) := by decide +kernel
theorem dX9_setsOut_49 : decode cX9_setsOut 49 = .ok (.return_, 1) := by decide +kernel
theorem mcX9_setsOut : x_mc yX9_setsOut cX9_setsOut 4 none 2 := ⟨wd_865, wd_4, by decide +kernel⟩
set_option maxHeartbeats 4000000 in
set_option maxRecDepth 100000 in
theorem kX9_setsOut (l : Launch) (base : Nat) (D : va_G) (dA : Nat → ClassId) (F : Nat) (r0 : Option Nat) (x1 : Int32) (x2 : Int32) : x_Met l base D dA yX9_setsOut cX9_setsOut 4 none 1 24 [va_rf r0, .int x1, .int x2] (mX9_setsOut F r0 x1 x2) (fun _ => none) := by
  refine x_Met.of [(0, .inr (.inl r0)), (1, .inl x1), (2, .inl x2)] (by decide) (Nat.le_of_ble_eq_true rfl) rfl rfl ?_
  intro p e R s m args below meth c σ a τ ls hfr hlo E hr hk hn S hM hl
  have E : x_E p s m args c cX9_setsOut 4 "WireMoneyModel" D dA := E
  unfold mX9_setsOut at hM
  refine w_aload_n E hl 0 dX9_setsOut_0 rfl ?_
  refine w_iload_n E hl 1 dX9_setsOut_1 rfl ?_
  refine w_iload_n E hl 2 dX9_setsOut_2 rfl ?_
  refine w_cVi (rest := []) E S hl hM (kX9_firstOf l base D dA F r0 x1 x2) mcX9_firstOf ⟨by decide, rfl, wd_866, wd_868, wp_34⟩ hfr hlo (by decide) rfl (Nat.le_of_ble_eq_true rfl) dX9_setsOut_3 rfl (fun v3 σ H locs S hM => ?_)
  refine w_istore_n (lt' := [(3, .inl v3), (0, .inr (.inl r0)), (1, .inl x1), (2, .inl x2)]) E hl dX9_setsOut_6 (by decide) rfl (fun ls hl => ?_)
  refine w_iload_n E hl 0 dX9_setsOut_7 rfl ?_
  refine lv_iconst (v := (-1 : Int32)) E.1 E.2.1 dX9_setsOut_8 (by decide) ?_
  refine lv_icmp_ne (tgt := 13) E.1 E.2.1 dX9_setsOut_9 (by decide) (fun c9 => ?_) (fun c9 => ?_)
  · replace hM := x_okF hM c9
    refine w_aload_n E hl 1 dX9_setsOut_13 rfl ?_
    refine w_rR E S hM lk_9_98 rfl dX9_setsOut_14 (fun v14 hM => ?_)
    refine w_iload_n E hl 0 dX9_setsOut_17 rfl ?_
    refine lv_iconst (v := (1 : Int32)) E.1 E.2.1 dX9_setsOut_18 (by decide) ?_
    refine w_sI E S hM dX9_setsOut_19 (fun σ H locs S hM => ?_)
    refine w_aload_n E hl 1 dX9_setsOut_20 rfl ?_
    refine w_rR E S hM lk_9_110 rfl dX9_setsOut_21 (fun v21 hM => ?_)
    refine w_iload_n E hl 0 dX9_setsOut_24 rfl ?_
    refine w_aload_n E hl 1 dX9_setsOut_25 rfl ?_
    refine w_rI E S hM lk_9_146 rfl dX9_setsOut_26 (fun v26 hM => ?_)
    refine w_aload_n E hl 1 dX9_setsOut_29 rfl ?_
    refine w_rR E S hM lk_9_31 rfl dX9_setsOut_30 (fun v30 hM => ?_)
    refine w_iload_n E hl 2 dX9_setsOut_33 rfl ?_
    refine w_aI E S hM dX9_setsOut_34 (fun v34 hM => ?_)
    refine lv_iadd E.1 E.2.1 dX9_setsOut_35 ?_
    refine w_sI E S hM dX9_setsOut_36 (fun σ H locs S hM => ?_)
    refine w_aload_n E hl 1 dX9_setsOut_37 rfl ?_
    refine w_rR E S hM lk_9_101 rfl dX9_setsOut_38 (fun v38 hM => ?_)
    refine w_iload_n E hl 0 dX9_setsOut_41 rfl ?_
    refine w_aload_n E hl 1 dX9_setsOut_42 rfl ?_
    refine w_iload_n E hl 2 dX9_setsOut_43 rfl ?_
    refine w_iload_n E hl 3 dX9_setsOut_44 rfl ?_
    refine w_cVi (rest := [.int v3, va_rf v38]) E S hl hM (kX9_otherEnd l base D dA F r0 x1 x2) mcX9_otherEnd ⟨by decide, rfl, wd_822, wd_824, wp_28⟩ hfr hlo (by decide) rfl (Nat.le_of_ble_eq_true rfl) dX9_setsOut_45 rfl (fun v45 σ H locs S hM => ?_)
    refine w_sI E S hM dX9_setsOut_48 (fun σ H locs S hM => ?_)
    exact w_vret E S hM hr hk dX9_setsOut_49
  · replace hM := x_okT hM c9
    exact w_vret E S hM hr hk dX9_setsOut_12
