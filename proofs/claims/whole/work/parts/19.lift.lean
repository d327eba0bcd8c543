theorem dX9_minute_0 : decode cX9_minute 0 = .ok (.aload_n 0, 1) := by decide +kernel
theorem dX9_minute_1 : decode cX9_minute 1 = .ok (.getfield 173, 3) := by decide +kernel
theorem dX9_minute_4 : decode cX9_minute 4 = .ok (.istore_n 1, 1) := by decide +kernel
theorem dX9_minute_5 : decode cX9_minute 5 = .ok (.iconst 0, 1) := by decide +kernel
theorem dX9_minute_6 : decode cX9_minute 6 = .ok (.istore_n 2, 1) := by decide +kernel
theorem dX9_minute_7 : decode cX9_minute 7 = .ok (.iload_n 2, 1) := by decide +kernel
theorem dX9_minute_8 : decode cX9_minute 8 = .ok (.iload_n 1, 1) := by decide +kernel
theorem dX9_minute_9 : decode cX9_minute 9 = .ok (.if_icmp .ge 69, 3) := by decide +kernel
theorem dX9_minute_12 : decode cX9_minute 12 = .ok (.aload_n 0, 1) := by decide +kernel
theorem dX9_minute_13 : decode cX9_minute 13 = .ok (.getfield 98, 3) := by decide +kernel
theorem dX9_minute_16 : decode cX9_minute 16 = .ok (.iload_n 2, 1) := by decide +kernel
theorem dX9_minute_17 : decode cX9_minute 17 = .ok (.iaload, 1) := by decide +kernel
theorem dX9_minute_18 : decode cX9_minute 18 = .ok (.iconst 1, 1) := by decide +kernel
theorem dX9_minute_19 : decode cX9_minute 19 = .ok (.if_icmp .ne 53, 3) := by decide +kernel
theorem dX9_minute_22 : decode cX9_minute 22 = .ok (.aload_n 0, 1) := by decide +kernel
theorem dX9_minute_23 : decode cX9_minute 23 = .ok (.getfield 110, 3) := by decide +kernel
theorem dX9_minute_26 : decode cX9_minute 26 = .ok (.iload_n 2, 1) := by decide +kernel
theorem dX9_minute_27 : decode cX9_minute 27 = .ok (.iaload, 1) := by decide +kernel
theorem dX9_minute_28 : decode cX9_minute 28 = .ok (.aload_n 0, 1) := by decide +kernel
theorem dX9_minute_29 : decode cX9_minute 29 = .ok (.getfield 146, 3) := by decide +kernel
theorem dX9_minute_32 : decode cX9_minute 32 = .ok (.if_icmp .eq 6, 3) := by decide +kernel
theorem dX9_minute_35 : decode cX9_minute 35 = .ok (.goto 37, 3) := by decide +kernel
theorem dX9_minute_38 : decode cX9_minute 38 = .ok (.aload_n 0, 1) := by decide +kernel
theorem dX9_minute_39 : decode cX9_minute 39 = .ok (.getfield 101, 3) := by decide +kernel
theorem dX9_minute_42 : decode cX9_minute 42 = .ok (.iload_n 2, 1) := by decide +kernel
theorem dX9_minute_43 : decode cX9_minute 43 = .ok (.iaload, 1) := by decide +kernel
theorem dX9_minute_44 : decode cX9_minute 44 = .ok (.aload_n 0, 1) := by decide +kernel
theorem dX9_minute_45 : decode cX9_minute 45 = .ok (.getfield 95, 3) := by decide +kernel
theorem dX9_minute_48 : decode cX9_minute 48 = .ok (.iload_n 2, 1) := by decide +kernel
theorem dX9_minute_49 : decode cX9_minute 49 = .ok (.iaload, 1) := by decide +kernel
theorem dX9_minute_50 : decode cX9_minute 50 = .ok (.if_icmp .ne 11, 3) := by decide +kernel
theorem dX9_minute_53 : decode cX9_minute 53 = .ok (.aload_n 0, 1) := by decide +kernel
theorem dX9_minute_54 : decode cX9_minute 54 = .ok (.iload_n 2, 1) := by decide +kernel
theorem dX9_minute_55 : decode cX9_minute 55 = .ok (.invokevirtual 214, 3) := by decide +kernel
theorem dX9_minute_58 : decode cX9_minute 58 = .ok (.goto 14, 3) := by decide +kernel
theorem dX9_minute_61 : decode cX9_minute 61 = .ok (.aload_n 0, 1) := by decide +kernel
theorem dX9_minute_62 : decode cX9_minute 62 = .ok (.iload_n 2, 1) := by decide +kernel
theorem dX9_minute_63 : decode cX9_minute 63 = .ok (.aload_n 0, 1) := by decide +kernel
theorem dX9_minute_64 : decode cX9_minute 64 = .ok (.getfield 101, 3) := by decide +kernel
theorem dX9_minute_67 : decode cX9_minute 67 = .ok (.iload_n 2, 1) := by decide +kernel
theorem dX9_minute_68 : decode cX9_minute 68 = .ok (.iaload, 1) := by decide +kernel
theorem dX9_minute_69 : decode cX9_minute 69 = .ok (.invokevirtual 183, 3) := by decide +kernel
theorem dX9_minute_72 : decode cX9_minute 72 = .ok (.iinc 2 1, 3) := by decide +kernel
theorem dX9_minute_75 : decode cX9_minute 75 = .ok (.goto (-68), 3) := by decide +kernel
theorem dX9_minute_78 : decode cX9_minute 78 = .ok (.iconst 0, 1) := by decide +kernel
theorem dX9_minute_79 : decode cX9_minute 79 = .ok (.istore_n 2, 1) := by decide +kernel
theorem dX9_minute_80 : decode cX9_minute 80 = .ok (.iload_n 2, 1) := by decide +kernel
theorem dX9_minute_81 : decode cX9_minute 81 = .ok (.aload_n 0, 1) := by decide +kernel
theorem dX9_minute_82 : decode cX9_minute 82 = .ok (.getfield 149, 3) := by decide +kernel
theorem dX9_minute_85 : decode cX9_minute 85 = .ok (.if_icmp .ge 58, 3) := by decide +kernel
theorem dX9_minute_88 : decode cX9_minute 88 = .ok (.aload_n 0, 1) := by decide +kernel
theorem dX9_minute_89 : decode cX9_minute 89 = .ok (.getfield 146, 3) := by decide +kernel
theorem dX9_minute_92 : decode cX9_minute 92 = .ok (.aload_n 0, 1) := by decide +kernel
theorem dX9_minute_93 : decode cX9_minute 93 = .ok (.getfield 34, 3) := by decide +kernel
theorem dX9_minute_96 : decode cX9_minute 96 = .ok (.iload_n 2, 1) := by decide +kernel
theorem dX9_minute_97 : decode cX9_minute 97 = .ok (.iaload, 1) := by decide +kernel
theorem dX9_minute_98 : decode cX9_minute 98 = .ok (.aload_n 0, 1) := by decide +kernel
theorem dX9_minute_99 : decode cX9_minute 99 = .ok (.getfield 37, 3) := by decide +kernel
theorem dX9_minute_102 : decode cX9_minute 102 = .ok (.iload_n 2, 1) := by decide +kernel
theorem dX9_minute_103 : decode cX9_minute 103 = .ok (.iaload, 1) := by decide +kernel
theorem dX9_minute_104 : decode cX9_minute 104 = .ok (.iconst 1, 1) := by decide +kernel
theorem dX9_minute_105 : decode cX9_minute 105 = .ok (.isub, 1) := by decide +kernel
theorem dX9_minute_106 : decode cX9_minute 106 = .ok (.invokestatic 138, 3) := by decide +kernel
theorem dX9_minute_109 : decode cX9_minute 109 = .ok (.ifCond .eq 6, 3) := by decide +kernel
theorem dX9_minute_112 : decode cX9_minute 112 = .ok (.goto 25, 3) := by decide +kernel
theorem dX9_minute_115 : decode cX9_minute 115 = .ok (.aload_n 0, 1) := by decide +kernel
theorem dX9_minute_116 : decode cX9_minute 116 = .ok (.iload_n 2, 1) := by decide +kernel
theorem dX9_minute_117 : decode cX9_minute 117 = .ok (.aload_n 0, 1) := by decide +kernel
theorem dX9_minute_118 : decode cX9_minute 118 = .ok (.getfield 25, 3) := by decide +kernel
theorem dX9_minute_121 : decode cX9_minute 121 = .ok (.iload_n 2, 1) := by decide +kernel
theorem dX9_minute_122 : decode cX9_minute 122 = .ok (.iaload, 1) := by decide +kernel
theorem dX9_minute_123 : decode cX9_minute 123 = .ok (.invokevirtual 218, 3) := by decide +kernel
theorem dX9_minute_126 : decode cX9_minute 126 = .ok (.aload_n 0, 1) := by decide +kernel
theorem dX9_minute_127 : decode cX9_minute 127 = .ok (.iload_n 2, 1) := by decide +kernel
theorem dX9_minute_128 : decode cX9_minute 128 = .ok (.aload_n 0, 1) := by decide +kernel
theorem dX9_minute_129 : decode cX9_minute 129 = .ok (.getfield 28, 3) := by decide +kernel
theorem dX9_minute_132 : decode cX9_minute 132 = .ok (.iload_n 2, 1) := by decide +kernel
theorem dX9_minute_133 : decode cX9_minute 133 = .ok (.iaload, 1) := by decide +kernel
theorem dX9_minute_134 : decode cX9_minute 134 = .ok (.invokevirtual 218, 3) := by decide +kernel
theorem dX9_minute_137 : decode cX9_minute 137 = .ok (.iinc 2 1, 3) := by decide +kernel
theorem dX9_minute_140 : decode cX9_minute 140 = .ok (.goto (-60), 3) := by decide +kernel
theorem dX9_minute_143 : decode cX9_minute 143 = .ok (.aload_n 0, 1) := by decide +kernel
theorem dX9_minute_144 : decode cX9_minute 144 = .ok (.dup, 1) := by decide +kernel
theorem dX9_minute_145 : decode cX9_minute 145 = .ok (.getfield 146, 3) := by decide +kernel
theorem dX9_minute_148 : decode cX9_minute 148 = .ok (.iconst 1, 1) := by decide +kernel
theorem dX9_minute_149 : decode cX9_minute 149 = .ok (.iadd, 1) := by decide +kernel
theorem dX9_minute_150 : decode cX9_minute 150 = .ok (.putfield 146, 3) := by decide +kernel
theorem dX9_minute_153 : decode cX9_minute 153 = .ok (.return_, 1) := by decide +kernel
set_option maxHeartbeats 4000000 in
set_option maxRecDepth 100000 in
theorem bX9_minute_80 {p : Program} {l : Launch} {e : Env} {R : Room} {s : State} {m : MethodId} {args : Array Value} {below : List Frame} {meth : Method} {c : Code} {base : Nat} {D : va_G} {dA : Nat → ClassId} {σ0 : PH} {z : Unit × PH} {F : Nat} (E : x_E p s m args c cX9_minute 3 "WireMoneyModel" D dA) (hr : meth.sig.returnType = none) (hk : meth.locks = false) (hfr : R.frames = 5) (hlo : R.locals = 117) : ∀ (n : Nat) (y0 : Option Nat) (y2 : Int32) (σ : PH) (H : Heap) (locs : List Loc) (ls : Array Slot), x_S base D dA R s σ0 z.2 σ H locs → x_rn (mX9_minute_80 F n y0 y2) σ = some z → x_lv ls 3 [(0, .inr (.inl y0)), (2, .inl y2)] → W p l e R s m args below meth c H locs (x_N σ - x_N σ0) (x_U σ - x_U σ0) (x_end below args s base D dA (fun _ => none) σ0 z) (F0 m 80 ls []) := by
  intro n
  induction n with
  | zero =>
    intro y0 y2 σ H locs ls S hM hl
    cases hM
  | succ n ih =>
    intro y0 y2 σ H locs ls S hM hl
    rw [mX9_minute_80] at hM
    refine w_iload_n E hl 1 dX9_minute_80 rfl ?_
    refine w_aload_n E hl 0 dX9_minute_81 rfl ?_
    refine w_rI E S hM lk_9_149 rfl dX9_minute_82 (fun v82 hM => ?_)
    refine lv_icmp_ge (tgt := 143) E.1 E.2.1 dX9_minute_85 (by decide) (fun c85 => ?_) (fun c85 => ?_)
    · replace hM := x_okT hM c85
      refine w_aload_n E hl 0 dX9_minute_143 rfl ?_
      refine lv_dup E.1 E.2.1 dX9_minute_144 (x_cat _) ?_
      refine w_rI E S hM lk_9_146 rfl dX9_minute_145 (fun v145 hM => ?_)
      refine lv_iconst (v := (1 : Int32)) E.1 E.2.1 dX9_minute_148 (by decide) ?_
      refine lv_iadd E.1 E.2.1 dX9_minute_149 ?_
      refine w_wI E S hM lk_9_146 rfl (Or.inl rfl) dX9_minute_150 (fun σ H locs S hM => ?_)
      exact w_vret E S hM hr hk dX9_minute_153
    · replace hM := x_okF hM c85
      refine w_aload_n E hl 0 dX9_minute_88 rfl ?_
      refine w_rI E S hM lk_9_146 rfl dX9_minute_89 (fun v89 hM => ?_)
      refine w_aload_n E hl 0 dX9_minute_92 rfl ?_
      refine w_rR E S hM lk_9_34 rfl dX9_minute_93 (fun v93 hM => ?_)
      refine w_iload_n E hl 1 dX9_minute_96 rfl ?_
      refine w_aI E S hM dX9_minute_97 (fun v97 hM => ?_)
      refine w_aload_n E hl 0 dX9_minute_98 rfl ?_
      refine w_rR E S hM lk_9_37 rfl dX9_minute_99 (fun v99 hM => ?_)
      refine w_iload_n E hl 1 dX9_minute_102 rfl ?_
      refine w_aI E S hM dX9_minute_103 (fun v103 hM => ?_)
      refine lv_iconst (v := (1 : Int32)) E.1 E.2.1 dX9_minute_104 (by decide) ?_
      refine lv_isub E.1 E.2.1 dX9_minute_105 ?_
      refine w_cSi (rest := []) E S hl hM (kX9_in l base D dA F v89 v97 (v103 - (1 : Int32))) mcX9_in ⟨wd_762, wd_763⟩ hfr hlo (by decide) rfl (Nat.le_of_ble_eq_true rfl) dX9_minute_106 rfl (fun v106 σ H locs S hM => ?_)
      refine lv_if_eq (tgt := 115) E.1 E.2.1 dX9_minute_109 (by decide) (fun c109 => ?_) (fun c109 => ?_)
      · replace hM := x_okT hM c109
        refine w_aload_n E hl 0 dX9_minute_115 rfl ?_
        refine w_iload_n E hl 1 dX9_minute_116 rfl ?_
        refine w_aload_n E hl 0 dX9_minute_117 rfl ?_
        refine w_rR E S hM lk_9_25 rfl dX9_minute_118 (fun v118 hM => ?_)
        refine w_iload_n E hl 1 dX9_minute_121 rfl ?_
        refine w_aI E S hM dX9_minute_122 (fun v122 hM => ?_)
        refine w_cVv (rest := []) E S hl hM (kX9_setsOut l base D dA F y0 y2 v122) mcX9_setsOut ⟨by decide, rfl, wd_862, wd_864, wp_33⟩ hfr hlo (by decide) rfl (Nat.le_of_ble_eq_true rfl) dX9_minute_123 rfl (fun σ H locs S hM => ?_)
        refine w_aload_n E hl 0 dX9_minute_126 rfl ?_
        refine w_iload_n E hl 1 dX9_minute_127 rfl ?_
        refine w_aload_n E hl 0 dX9_minute_128 rfl ?_
        refine w_rR E S hM lk_9_28 rfl dX9_minute_129 (fun v129 hM => ?_)
        refine w_iload_n E hl 1 dX9_minute_132 rfl ?_
        refine w_aI E S hM dX9_minute_133 (fun v133 hM => ?_)
        refine w_cVv (rest := []) E S hl hM (kX9_setsOut l base D dA F y0 y2 v133) mcX9_setsOut ⟨by decide, rfl, wd_862, wd_864, wp_33⟩ hfr hlo (by decide) rfl (Nat.le_of_ble_eq_true rfl) dX9_minute_134 rfl (fun σ H locs S hM => ?_)
        refine w_iincN (ltf := fun v137 => [(2, .inl v137), (0, .inr (.inl y0))]) E hl 1 hM dX9_minute_137 rfl (by decide) (by decide) (fun _ => rfl) (fun v137 ls hM hl => ?_)
        refine lv_goto (tgt := 80) E.1 E.2.1 dX9_minute_140 (by decide) ?_
        exact ih y0 v137 _ _ _ _ S hM (x_lv_sub hl [1, 0] rfl)
      · replace hM := x_okF hM c109
        refine lv_goto (tgt := 137) E.1 E.2.1 dX9_minute_112 (by decide) ?_
        refine w_iincN (ltf := fun v137 => [(2, .inl v137), (0, .inr (.inl y0))]) E hl 1 hM dX9_minute_137 rfl (by decide) (by decide) (fun _ => rfl) (fun v137 ls hM hl => ?_)
        refine lv_goto (tgt := 80) E.1 E.2.1 dX9_minute_140 (by decide) ?_
        exact ih y0 v137 _ _ _ _ S hM (x_lv_sub hl [1, 0] rfl)
set_option maxHeartbeats 4000000 in
set_option maxRecDepth 100000 in
theorem bX9_minute_7 {p : Program} {l : Launch} {e : Env} {R : Room} {s : State} {m : MethodId} {args : Array Value} {below : List Frame} {meth : Method} {c : Code} {base : Nat} {D : va_G} {dA : Nat → ClassId} {σ0 : PH} {z : Unit × PH} {F : Nat} (E : x_E p s m args c cX9_minute 3 "WireMoneyModel" D dA) (hr : meth.sig.returnType = none) (hk : meth.locks = false) (hfr : R.frames = 5) (hlo : R.locals = 117) : ∀ (n : Nat) (y0 : Option Nat) (y1 : Int32) (y2 : Int32) (σ : PH) (H : Heap) (locs : List Loc) (ls : Array Slot), x_S base D dA R s σ0 z.2 σ H locs → x_rn (mX9_minute_7 F n y0 y1 y2) σ = some z → x_lv ls 3 [(0, .inr (.inl y0)), (1, .inl y1), (2, .inl y2)] → W p l e R s m args below meth c H locs (x_N σ - x_N σ0) (x_U σ - x_U σ0) (x_end below args s base D dA (fun _ => none) σ0 z) (F0 m 7 ls []) := by
  intro n
  induction n with
  | zero =>
    intro y0 y1 y2 σ H locs ls S hM hl
    cases hM
  | succ n ih =>
    intro y0 y1 y2 σ H locs ls S hM hl
    rw [mX9_minute_7] at hM
    refine w_iload_n E hl 2 dX9_minute_7 rfl ?_
    refine w_iload_n E hl 1 dX9_minute_8 rfl ?_
    refine lv_icmp_ge (tgt := 78) E.1 E.2.1 dX9_minute_9 (by decide) (fun c9 => ?_) (fun c9 => ?_)
    · replace hM := x_okT hM c9
      refine lv_iconst (v := (0 : Int32)) E.1 E.2.1 dX9_minute_78 (by decide) ?_
      refine w_istore_n (lt' := [(2, .inl (0 : Int32)), (0, .inr (.inl y0)), (1, .inl y1)]) E hl dX9_minute_79 (by decide) rfl (fun ls hl => ?_)
      exact bX9_minute_80 E hr hk hfr hlo F y0 (0 : Int32) _ _ _ _ S hM (x_lv_sub hl [1, 0] rfl)
    · replace hM := x_okF hM c9
      refine w_aload_n E hl 0 dX9_minute_12 rfl ?_
      refine w_rR E S hM lk_9_98 rfl dX9_minute_13 (fun v13 hM => ?_)
      refine w_iload_n E hl 2 dX9_minute_16 rfl ?_
      refine w_aI E S hM dX9_minute_17 (fun v17 hM => ?_)
      refine lv_iconst (v := (1 : Int32)) E.1 E.2.1 dX9_minute_18 (by decide) ?_
      refine lv_icmp_ne (tgt := 72) E.1 E.2.1 dX9_minute_19 (by decide) (fun c19 => ?_) (fun c19 => ?_)
      · replace hM := x_okF hM c19
        refine w_iincN (ltf := fun v72 => [(2, .inl v72), (0, .inr (.inl y0)), (1, .inl y1)]) E hl 2 hM dX9_minute_72 rfl (by decide) (by decide) (fun _ => rfl) (fun v72 ls hM hl => ?_)
        refine lv_goto (tgt := 7) E.1 E.2.1 dX9_minute_75 (by decide) ?_
        exact ih y0 y1 v72 _ _ _ _ S hM (x_lv_sub hl [1, 2, 0] rfl)
      · replace hM := x_okT hM c19
        refine w_aload_n E hl 0 dX9_minute_22 rfl ?_
        refine w_rR E S hM lk_9_110 rfl dX9_minute_23 (fun v23 hM => ?_)
        refine w_iload_n E hl 2 dX9_minute_26 rfl ?_
        refine w_aI E S hM dX9_minute_27 (fun v27 hM => ?_)
        refine w_aload_n E hl 0 dX9_minute_28 rfl ?_
        refine w_rI E S hM lk_9_146 rfl dX9_minute_29 (fun v29 hM => ?_)
        refine lv_icmp_eq (tgt := 38) E.1 E.2.1 dX9_minute_32 (by decide) (fun c32 => ?_) (fun c32 => ?_)
        · replace hM := x_okT hM c32
          refine w_aload_n E hl 0 dX9_minute_38 rfl ?_
          refine w_rR E S hM lk_9_101 rfl dX9_minute_39 (fun v39 hM => ?_)
          refine w_iload_n E hl 2 dX9_minute_42 rfl ?_
          refine w_aI E S hM dX9_minute_43 (fun v43 hM => ?_)
          refine w_aload_n E hl 0 dX9_minute_44 rfl ?_
          refine w_rR E S hM lk_9_95 rfl dX9_minute_45 (fun v45 hM => ?_)
          refine w_iload_n E hl 2 dX9_minute_48 rfl ?_
          refine w_aI E S hM dX9_minute_49 (fun v49 hM => ?_)
          refine lv_icmp_ne (tgt := 61) E.1 E.2.1 dX9_minute_50 (by decide) (fun c50 => ?_) (fun c50 => ?_)
          · replace hM := x_okF hM c50
            refine w_aload_n E hl 0 dX9_minute_61 rfl ?_
            refine w_iload_n E hl 2 dX9_minute_62 rfl ?_
            refine w_aload_n E hl 0 dX9_minute_63 rfl ?_
            refine w_rR E S hM lk_9_101 rfl dX9_minute_64 (fun v64 hM => ?_)
            refine w_iload_n E hl 2 dX9_minute_67 rfl ?_
            refine w_aI E S hM dX9_minute_68 (fun v68 hM => ?_)
            refine w_cVv (rest := []) E S hl hM (kX9_queues l base D dA F y0 y2 v68) mcX9_queues ⟨by decide, rfl, wd_814, wd_816, wp_26⟩ hfr hlo (by decide) rfl (Nat.le_of_ble_eq_true rfl) dX9_minute_69 rfl (fun σ H locs S hM => ?_)
            refine w_iincN (ltf := fun v72 => [(2, .inl v72), (0, .inr (.inl y0)), (1, .inl y1)]) E hl 2 hM dX9_minute_72 rfl (by decide) (by decide) (fun _ => rfl) (fun v72 ls hM hl => ?_)
            refine lv_goto (tgt := 7) E.1 E.2.1 dX9_minute_75 (by decide) ?_
            exact ih y0 y1 v72 _ _ _ _ S hM (x_lv_sub hl [1, 2, 0] rfl)
          · replace hM := x_okT hM c50
            refine w_aload_n E hl 0 dX9_minute_53 rfl ?_
            refine w_iload_n E hl 2 dX9_minute_54 rfl ?_
            refine w_cVv (rest := []) E S hl hM (kX9_reads l base D dA F y0 y2) mcX9_reads ⟨by decide, rfl, wd_858, wd_860, wp_32⟩ hfr hlo (by decide) rfl (Nat.le_of_ble_eq_true rfl) dX9_minute_55 rfl (fun σ H locs S hM => ?_)
            refine lv_goto (tgt := 72) E.1 E.2.1 dX9_minute_58 (by decide) ?_
            refine w_iincN (ltf := fun v72 => [(2, .inl v72), (0, .inr (.inl y0)), (1, .inl y1)]) E hl 2 hM dX9_minute_72 rfl (by decide) (by decide) (fun _ => rfl) (fun v72 ls hM hl => ?_)
            refine lv_goto (tgt := 7) E.1 E.2.1 dX9_minute_75 (by decide) ?_
            exact ih y0 y1 v72 _ _ _ _ S hM (x_lv_sub hl [1, 2, 0] rfl)
        · replace hM := x_okF hM c32
          refine lv_goto (tgt := 72) E.1 E.2.1 dX9_minute_35 (by decide) ?_
          refine w_iincN (ltf := fun v72 => [(2, .inl v72), (0, .inr (.inl y0)), (1, .inl y1)]) E hl 2 hM dX9_minute_72 rfl (by decide) (by decide) (fun _ => rfl) (fun v72 ls hM hl => ?_)
          refine lv_goto (tgt := 7) E.1 E.2.1 dX9_minute_75 (by decide) ?_
          exact ih y0 y1 v72 _ _ _ _ S hM (x_lv_sub hl [1, 2, 0] rfl)
theorem mcX9_minute : x_mc yX9_minute cX9_minute 3 none 0 := ⟨wd_857, wd_4, by decide +kernel⟩
set_option maxHeartbeats 4000000 in
set_option maxRecDepth 100000 in
theorem kX9_minute (l : Launch) (base : Nat) (D : va_G) (dA : Nat → ClassId) (F : Nat) (r0 : Option Nat) : x_Met l base D dA yX9_minute cX9_minute 3 none 5 117 [va_rf r0] (mX9_minute F r0) (fun _ => none) := by
  refine x_Met.of [(0, .inr (.inl r0))] (by decide) (Nat.le_of_ble_eq_true rfl) rfl rfl ?_
  intro p e R s m args below meth c σ a τ ls hfr hlo E hr hk hn S hM hl
  have E : x_E p s m args c cX9_minute 3 "WireMoneyModel" D dA := E
  unfold mX9_minute at hM
  refine w_aload_n E hl 0 dX9_minute_0 rfl ?_
  refine w_rI E S hM lk_9_173 rfl dX9_minute_1 (fun v1 hM => ?_)
  refine w_istore_n (lt' := [(1, .inl v1), (0, .inr (.inl r0))]) E hl dX9_minute_4 (by decide) rfl (fun ls hl => ?_)
  refine lv_iconst (v := (0 : Int32)) E.1 E.2.1 dX9_minute_5 (by decide) ?_
  refine w_istore_n (lt' := [(2, .inl (0 : Int32)), (1, .inl v1), (0, .inr (.inl r0))]) E hl dX9_minute_6 (by decide) rfl (fun ls hl => ?_)
  exact bX9_minute_7 E hr hk hfr hlo F r0 v1 (0 : Int32) _ _ _ _ S hM (x_lv_sub hl [2, 1, 0] rfl)
theorem dX9_go_0 : decode cX9_go 0 = .ok (.iload_n 1, 1) := by decide +kernel
theorem dX9_go_1 : decode cX9_go 1 = .ok (.iconst 0, 1) := by decide +kernel
theorem dX9_go_2 : decode cX9_go 2 = .ok (.sipush 2000, 3) := by decide +kernel
theorem dX9_go_5 : decode cX9_go 5 = .ok (.invokestatic 138, 3) := by decide +kernel
theorem dX9_go_8 : decode cX9_go 8 = .ok (.ifCond .ne 5, 3) := by decide +kernel
theorem dX9_go_11 : decode cX9_go 11 = .ok (.iconst (-1), 1) := by decide +kernel
theorem dX9_go_12 : decode cX9_go 12 = .ok (.ireturn, 1) := by decide +kernel
theorem dX9_go_13 : decode cX9_go 13 = .ok (.iconst 0, 1) := by decide +kernel
theorem dX9_go_14 : decode cX9_go 14 = .ok (.istore_n 2, 1) := by decide +kernel
theorem dX9_go_15 : decode cX9_go 15 = .ok (.iload_n 2, 1) := by decide +kernel
theorem dX9_go_16 : decode cX9_go 16 = .ok (.iload_n 1, 1) := by decide +kernel
theorem dX9_go_17 : decode cX9_go 17 = .ok (.if_icmp .ge 23, 3) := by decide +kernel
theorem dX9_go_20 : decode cX9_go 20 = .ok (.aload_n 0, 1) := by decide +kernel
theorem dX9_go_21 : decode cX9_go 21 = .ok (.getfield 146, 3) := by decide +kernel
theorem dX9_go_24 : decode cX9_go 24 = .ok (.sipush 20000, 3) := by decide +kernel
theorem dX9_go_27 : decode cX9_go 27 = .ok (.if_icmp .ge 13, 3) := by decide +kernel
theorem dX9_go_30 : decode cX9_go 30 = .ok (.aload_n 0, 1) := by decide +kernel
theorem dX9_go_31 : decode cX9_go 31 = .ok (.invokevirtual 224, 3) := by decide +kernel
theorem dX9_go_34 : decode cX9_go 34 = .ok (.iinc 2 1, 3) := by decide +kernel
theorem dX9_go_37 : decode cX9_go 37 = .ok (.goto (-22), 3) := by decide +kernel
theorem dX9_go_40 : decode cX9_go 40 = .ok (.aload_n 0, 1) := by decide +kernel
theorem dX9_go_41 : decode cX9_go 41 = .ok (.getfield 146, 3) := by decide +kernel
theorem dX9_go_44 : decode cX9_go 44 = .ok (.ireturn, 1) := by decide +kernel
set_option maxHeartbeats 4000000 in
set_option maxRecDepth 100000 in
theorem bX9_go_15 {p : Program} {l : Launch} {e : Env} {R : Room} {s : State} {m : MethodId} {args : Array Value} {below : List Frame} {meth : Method} {c : Code} {base : Nat} {D : va_G} {dA : Nat → ClassId} {σ0 : PH} {z : Int32 × PH} {F : Nat} (E : x_E p s m args c cX9_go 3 "WireMoneyModel" D dA) (hr : meth.sig.returnType = (some .int)) (hk : meth.locks = false) (hfr : R.frames = 6) (hlo : R.locals = 139) : ∀ (n : Nat) (y0 : Option Nat) (y1 : Int32) (y2 : Int32) (σ : PH) (H : Heap) (locs : List Loc) (ls : Array Slot), x_S base D dA R s σ0 z.2 σ H locs → x_rn (mX9_go_15 F n y0 y1 y2) σ = some z → x_lv ls 3 [(0, .inr (.inl y0)), (1, .inl y1), (2, .inl y2)] → W p l e R s m args below meth c H locs (x_N σ - x_N σ0) (x_U σ - x_U σ0) (x_end below args s base D dA (fun x => some (.int x)) σ0 z) (F0 m 15 ls []) := by
  intro n
  induction n with
  | zero =>
    intro y0 y1 y2 σ H locs ls S hM hl
    cases hM
  | succ n ih =>
    intro y0 y1 y2 σ H locs ls S hM hl
    rw [mX9_go_15] at hM
    refine w_iload_n E hl 2 dX9_go_15 rfl ?_
    refine w_iload_n E hl 1 dX9_go_16 rfl ?_
    refine lv_icmp_ge (tgt := 40) E.1 E.2.1 dX9_go_17 (by decide) (fun c17 => ?_) (fun c17 => ?_)
    · replace hM := x_okT hM c17
      refine w_aload_n E hl 0 dX9_go_40 rfl ?_
      refine w_rI E S hM lk_9_146 rfl dX9_go_41 (fun v41 hM => ?_)
      exact w_iret E S hM hr hk dX9_go_44
    · replace hM := x_okF hM c17
      refine w_aload_n E hl 0 dX9_go_20 rfl ?_
      refine w_rI E S hM lk_9_146 rfl dX9_go_21 (fun v21 hM => ?_)
      refine lv_sipush (v := (20000 : Int32)) E.1 E.2.1 dX9_go_24 (by decide) ?_
      refine lv_icmp_ge (tgt := 40) E.1 E.2.1 dX9_go_27 (by decide) (fun c27 => ?_) (fun c27 => ?_)
      · replace hM := x_okT hM c27
        refine w_aload_n E hl 0 dX9_go_40 rfl ?_
        refine w_rI E S hM lk_9_146 rfl dX9_go_41 (fun v41 hM => ?_)
        exact w_iret E S hM hr hk dX9_go_44
      · replace hM := x_okF hM c27
        refine w_aload_n E hl 0 dX9_go_30 rfl ?_
        refine w_cVv (rest := []) E S hl hM (kX9_minute l base D dA F y0) mcX9_minute ⟨by decide, rfl, wd_854, wd_856, wp_31⟩ hfr hlo (by decide) rfl (Nat.le_of_ble_eq_true rfl) dX9_go_31 rfl (fun σ H locs S hM => ?_)
        refine w_iincN (ltf := fun v34 => [(2, .inl v34), (0, .inr (.inl y0)), (1, .inl y1)]) E hl 2 hM dX9_go_34 rfl (by decide) (by decide) (fun _ => rfl) (fun v34 ls hM hl => ?_)
        refine lv_goto (tgt := 15) E.1 E.2.1 dX9_go_37 (by decide) ?_
        exact ih y0 y1 v34 _ _ _ _ S hM (x_lv_sub hl [1, 2, 0] rfl)
theorem mcX9_go : x_mc yX9_go cX9_go 3 (some .int) 1 := ⟨wd_853, wd_4, by decide +kernel⟩
set_option maxHeartbeats 4000000 in
set_option maxRecDepth 100000 in
theorem kX9_go (l : Launch) (base : Nat) (D : va_G) (dA : Nat → ClassId) (F : Nat) (r0 : Option Nat) (x1 : Int32) : x_Met l base D dA yX9_go cX9_go 3 (some .int) 6 139 [va_rf r0, .int x1] (mX9_go F r0 x1) (fun x => some (.int x)) := by
  refine x_Met.of [(0, .inr (.inl r0)), (1, .inl x1)] (by decide) (Nat.le_of_ble_eq_true rfl) rfl rfl ?_
  intro p e R s m args below meth c σ a τ ls hfr hlo E hr hk hn S hM hl
  have E : x_E p s m args c cX9_go 3 "WireMoneyModel" D dA := E
  unfold mX9_go at hM
  refine w_iload_n E hl 1 dX9_go_0 rfl ?_
  refine lv_iconst (v := (0 : Int32)) E.1 E.2.1 dX9_go_1 (by decide) ?_
  refine lv_sipush (v := (2000 : Int32)) E.1 E.2.1 dX9_go_2 (by decide) ?_
  refine w_cSi (rest := []) E S hl hM (kX9_in l base D dA F x1 (0 : Int32) (2000 : Int32)) mcX9_in ⟨wd_762, wd_763⟩ hfr hlo (by decide) rfl (Nat.le_of_ble_eq_true rfl) dX9_go_5 rfl (fun v5 σ H locs S hM => ?_)
  refine lv_if_ne (tgt := 13) E.1 E.2.1 dX9_go_8 (by decide) (fun c8 => ?_) (fun c8 => ?_)
  · replace hM := x_okF hM c8
    refine lv_iconst (v := (0 : Int32)) E.1 E.2.1 dX9_go_13 (by decide) ?_
    refine w_istore_n (lt' := [(2, .inl (0 : Int32)), (0, .inr (.inl r0)), (1, .inl x1)]) E hl dX9_go_14 (by decide) rfl (fun ls hl => ?_)
    exact bX9_go_15 E hr hk hfr hlo F r0 x1 (0 : Int32) _ _ _ _ S hM (x_lv_sub hl [1, 2, 0] rfl)
  · replace hM := x_okT hM c8
    refine lv_iconst (v := (-1 : Int32)) E.1 E.2.1 dX9_go_11 (by decide) ?_
    exact w_iret E S hM hr hk dX9_go_12
theorem dX9_sign_0 : decode cX9_sign 0 = .ok (.aload_n 0, 1) := by decide +kernel
theorem dX9_sign_1 : decode cX9_sign 1 = .ok (.iload_n 1, 1) := by decide +kernel
theorem dX9_sign_2 : decode cX9_sign 2 = .ok (.invokevirtual 205, 3) := by decide +kernel
theorem dX9_sign_5 : decode cX9_sign 5 = .ok (.ifCond .eq 13, 3) := by decide +kernel
theorem dX9_sign_8 : decode cX9_sign 8 = .ok (.iload_n 2, 1) := by decide +kernel
theorem dX9_sign_9 : decode cX9_sign 9 = .ok (.iconst 0, 1) := by decide +kernel
theorem dX9_sign_10 : decode cX9_sign 10 = .ok (.bipush 13, 2) := by decide +kernel
theorem dX9_sign_12 : decode cX9_sign 12 = .ok (.invokestatic 138, 3) := by decide +kernel
theorem dX9_sign_15 : decode cX9_sign 15 = .ok (.ifCond .ne 5, 3) := by decide +kernel
theorem dX9_sign_18 : decode cX9_sign 18 = .ok (.iconst (-1), 1) := by decide +kernel
theorem dX9_sign_19 : decode cX9_sign 19 = .ok (.ireturn, 1) := by decide +kernel
theorem dX9_sign_20 : decode cX9_sign 20 = .ok (.iload_n 2, 1) := by decide +kernel
theorem dX9_sign_21 : decode cX9_sign 21 = .ok (.bipush 13, 2) := by decide +kernel
theorem dX9_sign_23 : decode cX9_sign 23 = .ok (.if_icmp .ne 12, 3) := by decide +kernel
theorem dX9_sign_26 : decode cX9_sign 26 = .ok (.aload_n 0, 1) := by decide +kernel
theorem dX9_sign_27 : decode cX9_sign 27 = .ok (.getfield 122, 3) := by decide +kernel
theorem dX9_sign_30 : decode cX9_sign 30 = .ok (.iload_n 1, 1) := by decide +kernel
theorem dX9_sign_31 : decode cX9_sign 31 = .ok (.iaload, 1) := by decide +kernel
theorem dX9_sign_32 : decode cX9_sign 32 = .ok (.goto 14, 3) := by decide +kernel
theorem dX9_sign_35 : decode cX9_sign 35 = .ok (.aload_n 0, 1) := by decide +kernel
theorem dX9_sign_36 : decode cX9_sign 36 = .ok (.getfield 128, 3) := by decide +kernel
theorem dX9_sign_39 : decode cX9_sign 39 = .ok (.bipush 13, 2) := by decide +kernel
theorem dX9_sign_41 : decode cX9_sign 41 = .ok (.iload_n 1, 1) := by decide +kernel
theorem dX9_sign_42 : decode cX9_sign 42 = .ok (.imul, 1) := by decide +kernel
theorem dX9_sign_43 : decode cX9_sign 43 = .ok (.iload_n 2, 1) := by decide +kernel
theorem dX9_sign_44 : decode cX9_sign 44 = .ok (.iadd, 1) := by decide +kernel
theorem dX9_sign_45 : decode cX9_sign 45 = .ok (.iaload, 1) := by decide +kernel
theorem dX9_sign_46 : decode cX9_sign 46 = .ok (.ireturn, 1) := by decide +kernel
theorem mcX9_sign : x_mc yX9_sign cX9_sign 3 (some .int) 2 := ⟨wd_873, wd_4, by decide +kernel⟩
set_option maxHeartbeats 4000000 in
set_option maxRecDepth 100000 in
theorem kX9_sign (l : Launch) (base : Nat) (D : va_G) (dA : Nat → ClassId) (F : Nat) (r0 : Option Nat) (x1 : Int32) (x2 : Int32) : x_Met l base D dA yX9_sign cX9_sign 3 (some .int) 2 43 [va_rf r0, .int x1, .int x2] (mX9_sign F r0 x1 x2) (fun x => some (.int x)) := by
  refine x_Met.of [(0, .inr (.inl r0)), (1, .inl x1), (2, .inl x2)] (by decide) (Nat.le_of_ble_eq_true rfl) rfl rfl ?_
  intro p e R s m args below meth c σ a τ ls hfr hlo E hr hk hn S hM hl
  have E : x_E p s m args c cX9_sign 3 "WireMoneyModel" D dA := E
  unfold mX9_sign at hM
  refine w_aload_n E hl 0 dX9_sign_0 rfl ?_
  refine w_iload_n E hl 1 dX9_sign_1 rfl ?_
  refine w_cVi (rest := []) E S hl hM (kX9_isPayment l base D dA F r0 x1) mcX9_isPayment ⟨by decide, rfl, wd_846, wd_848, wp_30⟩ hfr hlo (by decide) rfl (Nat.le_of_ble_eq_true rfl) dX9_sign_2 rfl (fun v2 σ H locs S hM => ?_)
  refine lv_if_eq (tgt := 18) E.1 E.2.1 dX9_sign_5 (by decide) (fun c5 => ?_) (fun c5 => ?_)
  · replace hM := x_okT hM c5
    refine lv_iconst (v := (-1 : Int32)) E.1 E.2.1 dX9_sign_18 (by decide) ?_
    exact w_iret E S hM hr hk dX9_sign_19
  · replace hM := x_okF hM c5
    refine w_iload_n E hl 2 dX9_sign_8 rfl ?_
    refine lv_iconst (v := (0 : Int32)) E.1 E.2.1 dX9_sign_9 (by decide) ?_
    refine lv_bipush (v := (13 : Int32)) E.1 E.2.1 dX9_sign_10 (by decide) ?_
    refine w_cSi (rest := []) E S hl hM (kX9_in l base D dA F x2 (0 : Int32) (13 : Int32)) mcX9_in ⟨wd_762, wd_763⟩ hfr hlo (by decide) rfl (Nat.le_of_ble_eq_true rfl) dX9_sign_12 rfl (fun v12 σ H locs S hM => ?_)
    refine lv_if_ne (tgt := 20) E.1 E.2.1 dX9_sign_15 (by decide) (fun c15 => ?_) (fun c15 => ?_)
    · replace hM := x_okF hM c15
      refine w_iload_n E hl 2 dX9_sign_20 rfl ?_
      refine lv_bipush (v := (13 : Int32)) E.1 E.2.1 dX9_sign_21 (by decide) ?_
      refine lv_icmp_ne (tgt := 35) E.1 E.2.1 dX9_sign_23 (by decide) (fun c23 => ?_) (fun c23 => ?_)
      · replace hM := x_okF hM c23
        refine w_aload_n E hl 0 dX9_sign_35 rfl ?_
        refine w_rR E S hM lk_9_128 rfl dX9_sign_36 (fun v36 hM => ?_)
        refine lv_bipush (v := (13 : Int32)) E.1 E.2.1 dX9_sign_39 (by decide) ?_
        refine w_iload_n E hl 1 dX9_sign_41 rfl ?_
        refine lv_imul E.1 E.2.1 dX9_sign_42 ?_
        refine w_iload_n E hl 2 dX9_sign_43 rfl ?_
        refine lv_iadd E.1 E.2.1 dX9_sign_44 ?_
        refine w_aI E S hM dX9_sign_45 (fun v45 hM => ?_)
        exact w_iret E S hM hr hk dX9_sign_46
      · replace hM := x_okT hM c23
        refine w_aload_n E hl 0 dX9_sign_26 rfl ?_
        refine w_rR E S hM lk_9_122 rfl dX9_sign_27 (fun v27 hM => ?_)
        refine w_iload_n E hl 1 dX9_sign_30 rfl ?_
        refine w_aI E S hM dX9_sign_31 (fun v31 hM => ?_)
        refine lv_goto (tgt := 46) E.1 E.2.1 dX9_sign_32 (by decide) ?_
        exact w_iret E S hM hr hk dX9_sign_46
    · replace hM := x_okT hM c15
      refine lv_iconst (v := (-1 : Int32)) E.1 E.2.1 dX9_sign_18 (by decide) ?_
      exact w_iret E S hM hr hk dX9_sign_19
theorem dX9_message_0 : decode cX9_message 0 = .ok (.iload_n 1, 1) := by decide +kernel
theorem dX9_message_1 : decode cX9_message 1 = .ok (.iconst 0, 1) := by decide +kernel
theorem dX9_message_2 : decode cX9_message 2 = .ok (.aload_n 0, 1) := by decide +kernel
theorem dX9_message_3 : decode cX9_message 3 = .ok (.getfield 173, 3) := by decide +kernel
theorem dX9_message_6 : decode cX9_message 6 = .ok (.iconst 1, 1) := by decide +kernel
theorem dX9_message_7 : decode cX9_message 7 = .ok (.isub, 1) := by decide +kernel
theorem dX9_message_8 : decode cX9_message 8 = .ok (.invokestatic 138, 3) := by decide +kernel
theorem dX9_message_11 : decode cX9_message 11 = .ok (.ifCond .ne 5, 3) := by decide +kernel
theorem dX9_message_14 : decode cX9_message 14 = .ok (.iconst (-1), 1) := by decide +kernel
theorem dX9_message_15 : decode cX9_message 15 = .ok (.ireturn, 1) := by decide +kernel
theorem dX9_message_16 : decode cX9_message 16 = .ok (.iload_n 2, 1) := by decide +kernel
theorem dX9_message_17 : decode cX9_message 17 = .ok (.tableswitch 114 0 6 #[43, 50, 57, 64, 71, 92, 99], 43) := by decide +kernel
theorem dX9_message_60 : decode cX9_message 60 = .ok (.aload_n 0, 1) := by decide +kernel
theorem dX9_message_61 : decode cX9_message 61 = .ok (.getfield 86, 3) := by decide +kernel
theorem dX9_message_64 : decode cX9_message 64 = .ok (.iload_n 1, 1) := by decide +kernel
theorem dX9_message_65 : decode cX9_message 65 = .ok (.iaload, 1) := by decide +kernel
theorem dX9_message_66 : decode cX9_message 66 = .ok (.ireturn, 1) := by decide +kernel
theorem dX9_message_67 : decode cX9_message 67 = .ok (.aload_n 0, 1) := by decide +kernel
theorem dX9_message_68 : decode cX9_message 68 = .ok (.getfield 89, 3) := by decide +kernel
theorem dX9_message_71 : decode cX9_message 71 = .ok (.iload_n 1, 1) := by decide +kernel
theorem dX9_message_72 : decode cX9_message 72 = .ok (.iaload, 1) := by decide +kernel
theorem dX9_message_73 : decode cX9_message 73 = .ok (.ireturn, 1) := by decide +kernel
theorem dX9_message_74 : decode cX9_message 74 = .ok (.aload_n 0, 1) := by decide +kernel
theorem dX9_message_75 : decode cX9_message 75 = .ok (.getfield 92, 3) := by decide +kernel
theorem dX9_message_78 : decode cX9_message 78 = .ok (.iload_n 1, 1) := by decide +kernel
theorem dX9_message_79 : decode cX9_message 79 = .ok (.iaload, 1) := by decide +kernel
theorem dX9_message_80 : decode cX9_message 80 = .ok (.ireturn, 1) := by decide +kernel
theorem dX9_message_81 : decode cX9_message 81 = .ok (.aload_n 0, 1) := by decide +kernel
theorem dX9_message_82 : decode cX9_message 82 = .ok (.getfield 95, 3) := by decide +kernel
theorem dX9_message_85 : decode cX9_message 85 = .ok (.iload_n 1, 1) := by decide +kernel
theorem dX9_message_86 : decode cX9_message 86 = .ok (.iaload, 1) := by decide +kernel
theorem dX9_message_87 : decode cX9_message 87 = .ok (.ireturn, 1) := by decide +kernel
theorem dX9_message_88 : decode cX9_message 88 = .ok (.aload_n 0, 1) := by decide +kernel
theorem dX9_message_89 : decode cX9_message 89 = .ok (.getfield 98, 3) := by decide +kernel
theorem dX9_message_92 : decode cX9_message 92 = .ok (.iload_n 1, 1) := by decide +kernel
theorem dX9_message_93 : decode cX9_message 93 = .ok (.iaload, 1) := by decide +kernel
theorem dX9_message_94 : decode cX9_message 94 = .ok (.iconst 1, 1) := by decide +kernel
theorem dX9_message_95 : decode cX9_message 95 = .ok (.if_icmp .ne 7, 3) := by decide +kernel
theorem dX9_message_98 : decode cX9_message 98 = .ok (.iconst (-1), 1) := by decide +kernel
theorem dX9_message_99 : decode cX9_message 99 = .ok (.goto 9, 3) := by decide +kernel
theorem dX9_message_102 : decode cX9_message 102 = .ok (.aload_n 0, 1) := by decide +kernel
theorem dX9_message_103 : decode cX9_message 103 = .ok (.getfield 101, 3) := by decide +kernel
theorem dX9_message_106 : decode cX9_message 106 = .ok (.iload_n 1, 1) := by decide +kernel
theorem dX9_message_107 : decode cX9_message 107 = .ok (.iaload, 1) := by decide +kernel
theorem dX9_message_108 : decode cX9_message 108 = .ok (.ireturn, 1) := by decide +kernel
theorem dX9_message_109 : decode cX9_message 109 = .ok (.aload_n 0, 1) := by decide +kernel
theorem dX9_message_110 : decode cX9_message 110 = .ok (.getfield 113, 3) := by decide +kernel
theorem dX9_message_113 : decode cX9_message 113 = .ok (.iload_n 1, 1) := by decide +kernel
theorem dX9_message_114 : decode cX9_message 114 = .ok (.iaload, 1) := by decide +kernel
theorem dX9_message_115 : decode cX9_message 115 = .ok (.ireturn, 1) := by decide +kernel
theorem dX9_message_116 : decode cX9_message 116 = .ok (.aload_n 0, 1) := by decide +kernel
theorem dX9_message_117 : decode cX9_message 117 = .ok (.getfield 116, 3) := by decide +kernel
theorem dX9_message_120 : decode cX9_message 120 = .ok (.iload_n 1, 1) := by decide +kernel
theorem dX9_message_121 : decode cX9_message 121 = .ok (.baload, 1) := by decide +kernel
theorem dX9_message_122 : decode cX9_message 122 = .ok (.ifCond .eq 7, 3) := by decide +kernel
theorem dX9_message_125 : decode cX9_message 125 = .ok (.iconst 1, 1) := by decide +kernel
theorem dX9_message_126 : decode cX9_message 126 = .ok (.goto 4, 3) := by decide +kernel
theorem dX9_message_129 : decode cX9_message 129 = .ok (.iconst 0, 1) := by decide +kernel
theorem dX9_message_130 : decode cX9_message 130 = .ok (.ireturn, 1) := by decide +kernel
theorem dX9_message_131 : decode cX9_message 131 = .ok (.iconst (-1), 1) := by decide +kernel
theorem dX9_message_132 : decode cX9_message 132 = .ok (.ireturn, 1) := by decide +kernel
theorem mcX9_message : x_mc yX9_message cX9_message 3 (some .int) 2 := ⟨wd_877, wd_4, by decide +kernel⟩
set_option maxHeartbeats 4000000 in
set_option maxRecDepth 100000 in
theorem kX9_message (l : Launch) (base : Nat) (D : va_G) (dA : Nat → ClassId) (F : Nat) (r0 : Option Nat) (x1 : Int32) (x2 : Int32) : x_Met l base D dA yX9_message cX9_message 3 (some .int) 1 22 [va_rf r0, .int x1, .int x2] (mX9_message F r0 x1 x2) (fun x => some (.int x)) := by
  refine x_Met.of [(0, .inr (.inl r0)), (1, .inl x1), (2, .inl x2)] (by decide) (Nat.le_of_ble_eq_true rfl) rfl rfl ?_
  intro p e R s m args below meth c σ a τ ls hfr hlo E hr hk hn S hM hl
  have E : x_E p s m args c cX9_message 3 "WireMoneyModel" D dA := E
  unfold mX9_message at hM
  refine w_iload_n E hl 1 dX9_message_0 rfl ?_
  refine lv_iconst (v := (0 : Int32)) E.1 E.2.1 dX9_message_1 (by decide) ?_
  refine w_aload_n E hl 0 dX9_message_2 rfl ?_
  refine w_rI E S hM lk_9_173 rfl dX9_message_3 (fun v3 hM => ?_)
  refine lv_iconst (v := (1 : Int32)) E.1 E.2.1 dX9_message_6 (by decide) ?_
  refine lv_isub E.1 E.2.1 dX9_message_7 ?_
  refine w_cSi (rest := []) E S hl hM (kX9_in l base D dA F x1 (0 : Int32) (v3 - (1 : Int32))) mcX9_in ⟨wd_762, wd_763⟩ hfr hlo (by decide) rfl (Nat.le_of_ble_eq_true rfl) dX9_message_8 rfl (fun v8 σ H locs S hM => ?_)
  refine lv_if_ne (tgt := 16) E.1 E.2.1 dX9_message_11 (by decide) (fun c11 => ?_) (fun c11 => ?_)
  · replace hM := x_okF hM c11
    refine w_iload_n E hl 2 dX9_message_16 rfl ?_
    by_cases h17_0 : x2 = 0
    · replace hM := x_okT hM h17_0
      refine lv_tableIn (off := 43) (tgt := 60) E.1 E.2.1 dX9_message_17 (by rw [h17_0]; decide) (by rw [h17_0]; decide) (by rw [h17_0]; rfl) (by decide) ?_
      refine w_aload_n E hl 0 dX9_message_60 rfl ?_
      refine w_rR E S hM lk_9_86 rfl dX9_message_61 (fun v61 hM => ?_)
      refine w_iload_n E hl 1 dX9_message_64 rfl ?_
      refine w_aI E S hM dX9_message_65 (fun v65 hM => ?_)
      exact w_iret E S hM hr hk dX9_message_66
    replace hM := x_okF hM h17_0
    by_cases h17_1 : x2 = 1
    · replace hM := x_okT hM h17_1
      refine lv_tableIn (off := 50) (tgt := 67) E.1 E.2.1 dX9_message_17 (by rw [h17_1]; decide) (by rw [h17_1]; decide) (by rw [h17_1]; rfl) (by decide) ?_
      refine w_aload_n E hl 0 dX9_message_67 rfl ?_
      refine w_rR E S hM lk_9_89 rfl dX9_message_68 (fun v68 hM => ?_)
      refine w_iload_n E hl 1 dX9_message_71 rfl ?_
      refine w_aI E S hM dX9_message_72 (fun v72 hM => ?_)
      exact w_iret E S hM hr hk dX9_message_73
    replace hM := x_okF hM h17_1
    by_cases h17_2 : x2 = 2
    · replace hM := x_okT hM h17_2
      refine lv_tableIn (off := 57) (tgt := 74) E.1 E.2.1 dX9_message_17 (by rw [h17_2]; decide) (by rw [h17_2]; decide) (by rw [h17_2]; rfl) (by decide) ?_
      refine w_aload_n E hl 0 dX9_message_74 rfl ?_
      refine w_rR E S hM lk_9_92 rfl dX9_message_75 (fun v75 hM => ?_)
      refine w_iload_n E hl 1 dX9_message_78 rfl ?_
      refine w_aI E S hM dX9_message_79 (fun v79 hM => ?_)
      exact w_iret E S hM hr hk dX9_message_80
    replace hM := x_okF hM h17_2
    by_cases h17_3 : x2 = 3
    · replace hM := x_okT hM h17_3
      refine lv_tableIn (off := 64) (tgt := 81) E.1 E.2.1 dX9_message_17 (by rw [h17_3]; decide) (by rw [h17_3]; decide) (by rw [h17_3]; rfl) (by decide) ?_
      refine w_aload_n E hl 0 dX9_message_81 rfl ?_
      refine w_rR E S hM lk_9_95 rfl dX9_message_82 (fun v82 hM => ?_)
      refine w_iload_n E hl 1 dX9_message_85 rfl ?_
      refine w_aI E S hM dX9_message_86 (fun v86 hM => ?_)
      exact w_iret E S hM hr hk dX9_message_87
    replace hM := x_okF hM h17_3
    by_cases h17_4 : x2 = 4
    · replace hM := x_okT hM h17_4
      refine lv_tableIn (off := 71) (tgt := 88) E.1 E.2.1 dX9_message_17 (by rw [h17_4]; decide) (by rw [h17_4]; decide) (by rw [h17_4]; rfl) (by decide) ?_
      refine w_aload_n E hl 0 dX9_message_88 rfl ?_
      refine w_rR E S hM lk_9_98 rfl dX9_message_89 (fun v89 hM => ?_)
      refine w_iload_n E hl 1 dX9_message_92 rfl ?_
      refine w_aI E S hM dX9_message_93 (fun v93 hM => ?_)
      refine lv_iconst (v := (1 : Int32)) E.1 E.2.1 dX9_message_94 (by decide) ?_
      refine lv_icmp_ne (tgt := 102) E.1 E.2.1 dX9_message_95 (by decide) (fun c95 => ?_) (fun c95 => ?_)
      · replace hM := x_okF hM c95
        refine w_aload_n E hl 0 dX9_message_102 rfl ?_
        refine w_rR E S hM lk_9_101 rfl dX9_message_103 (fun v103 hM => ?_)
        refine w_iload_n E hl 1 dX9_message_106 rfl ?_
        refine w_aI E S hM dX9_message_107 (fun v107 hM => ?_)
        exact w_iret E S hM hr hk dX9_message_108
      · replace hM := x_okT hM c95
        refine lv_iconst (v := (-1 : Int32)) E.1 E.2.1 dX9_message_98 (by decide) ?_
        refine lv_goto (tgt := 108) E.1 E.2.1 dX9_message_99 (by decide) ?_
        exact w_iret E S hM hr hk dX9_message_108
    replace hM := x_okF hM h17_4
    by_cases h17_5 : x2 = 5
    · replace hM := x_okT hM h17_5
      refine lv_tableIn (off := 92) (tgt := 109) E.1 E.2.1 dX9_message_17 (by rw [h17_5]; decide) (by rw [h17_5]; decide) (by rw [h17_5]; rfl) (by decide) ?_
      refine w_aload_n E hl 0 dX9_message_109 rfl ?_
      refine w_rR E S hM lk_9_113 rfl dX9_message_110 (fun v110 hM => ?_)
      refine w_iload_n E hl 1 dX9_message_113 rfl ?_
      refine w_aI E S hM dX9_message_114 (fun v114 hM => ?_)
      exact w_iret E S hM hr hk dX9_message_115
    replace hM := x_okF hM h17_5
    by_cases h17_6 : x2 = 6
    · replace hM := x_okT hM h17_6
      refine lv_tableIn (off := 99) (tgt := 116) E.1 E.2.1 dX9_message_17 (by rw [h17_6]; decide) (by rw [h17_6]; decide) (by rw [h17_6]; rfl) (by decide) ?_
      refine w_aload_n E hl 0 dX9_message_116 rfl ?_
      refine w_rR E S hM lk_9_116 rfl dX9_message_117 (fun v117 hM => ?_)
      refine w_iload_n E hl 1 dX9_message_120 rfl ?_
      refine w_aZ E S hM dX9_message_121 (fun v121 hM => ?_)
      refine lv_if_eq (tgt := 129) E.1 E.2.1 dX9_message_122 (by decide) (fun c122 => ?_) (fun c122 => ?_)
      · replace hM := x_okT hM c122
        refine lv_iconst (v := (0 : Int32)) E.1 E.2.1 dX9_message_129 (by decide) ?_
        exact w_iret E S hM hr hk dX9_message_130
      · replace hM := x_okF hM c122
        refine lv_iconst (v := (1 : Int32)) E.1 E.2.1 dX9_message_125 (by decide) ?_
        refine lv_goto (tgt := 130) E.1 E.2.1 dX9_message_126 (by decide) ?_
        exact w_iret E S hM hr hk dX9_message_130
    replace hM := x_okF hM h17_6
    have n17_0 := lv_neT (a := 0) h17_0 (by decide)
    have n17_1 := lv_neT (a := 1) h17_1 (by decide)
    have n17_2 := lv_neT (a := 2) h17_2 (by decide)
    have n17_3 := lv_neT (a := 3) h17_3 (by decide)
    have n17_4 := lv_neT (a := 4) h17_4 (by decide)
    have n17_5 := lv_neT (a := 5) h17_5 (by decide)
    have n17_6 := lv_neT (a := 6) h17_6 (by decide)
    refine lv_tableOut (tgt := 131) E.1 E.2.1 dX9_message_17 (by omega) (by decide) ?_
    refine lv_iconst (v := (-1 : Int32)) E.1 E.2.1 dX9_message_131 (by decide) ?_
    exact w_iret E S hM hr hk dX9_message_132
  · replace hM := x_okT hM c11
    refine lv_iconst (v := (-1 : Int32)) E.1 E.2.1 dX9_message_14 (by decide) ?_
    exact w_iret E S hM hr hk dX9_message_15
theorem dX9_told_0 : decode cX9_told 0 = .ok (.aload_n 0, 1) := by decide +kernel
theorem dX9_told_1 : decode cX9_told 1 = .ok (.iload_n 1, 1) := by decide +kernel
theorem dX9_told_2 : decode cX9_told 2 = .ok (.invokevirtual 199, 3) := by decide +kernel
theorem dX9_told_5 : decode cX9_told 5 = .ok (.ifCond .ne 5, 3) := by decide +kernel
theorem dX9_told_8 : decode cX9_told 8 = .ok (.iconst (-1), 1) := by decide +kernel
theorem dX9_told_9 : decode cX9_told 9 = .ok (.ireturn, 1) := by decide +kernel
theorem dX9_told_10 : decode cX9_told 10 = .ok (.iload_n 2, 1) := by decide +kernel
theorem dX9_told_11 : decode cX9_told 11 = .ok (.tableswitch 155 0 9 #[53, 60, 67, 74, 81, 96, 111, 126, 141, 148], 53) := by decide +kernel
theorem dX9_told_64 : decode cX9_told 64 = .ok (.aload_n 0, 1) := by decide +kernel
theorem dX9_told_65 : decode cX9_told 65 = .ok (.getfield 49, 3) := by decide +kernel
theorem dX9_told_68 : decode cX9_told 68 = .ok (.iload_n 1, 1) := by decide +kernel
theorem dX9_told_69 : decode cX9_told 69 = .ok (.iaload, 1) := by decide +kernel
theorem dX9_told_70 : decode cX9_told 70 = .ok (.ireturn, 1) := by decide +kernel
theorem dX9_told_71 : decode cX9_told 71 = .ok (.aload_n 0, 1) := by decide +kernel
theorem dX9_told_72 : decode cX9_told 72 = .ok (.getfield 52, 3) := by decide +kernel
theorem dX9_told_75 : decode cX9_told 75 = .ok (.iload_n 1, 1) := by decide +kernel
theorem dX9_told_76 : decode cX9_told 76 = .ok (.iaload, 1) := by decide +kernel
theorem dX9_told_77 : decode cX9_told 77 = .ok (.ireturn, 1) := by decide +kernel
theorem dX9_told_78 : decode cX9_told 78 = .ok (.aload_n 0, 1) := by decide +kernel
theorem dX9_told_79 : decode cX9_told 79 = .ok (.getfield 55, 3) := by decide +kernel
theorem dX9_told_82 : decode cX9_told 82 = .ok (.iload_n 1, 1) := by decide +kernel
theorem dX9_told_83 : decode cX9_told 83 = .ok (.iaload, 1) := by decide +kernel
theorem dX9_told_84 : decode cX9_told 84 = .ok (.ireturn, 1) := by decide +kernel
theorem dX9_told_85 : decode cX9_told 85 = .ok (.aload_n 0, 1) := by decide +kernel
theorem dX9_told_86 : decode cX9_told 86 = .ok (.getfield 61, 3) := by decide +kernel
theorem dX9_told_89 : decode cX9_told 89 = .ok (.iload_n 1, 1) := by decide +kernel
theorem dX9_told_90 : decode cX9_told 90 = .ok (.iaload, 1) := by decide +kernel
theorem dX9_told_91 : decode cX9_told 91 = .ok (.ireturn, 1) := by decide +kernel
theorem dX9_told_92 : decode cX9_told 92 = .ok (.aload_n 0, 1) := by decide +kernel
theorem dX9_told_93 : decode cX9_told 93 = .ok (.getfield 64, 3) := by decide +kernel
theorem dX9_told_96 : decode cX9_told 96 = .ok (.iload_n 1, 1) := by decide +kernel
theorem dX9_told_97 : decode cX9_told 97 = .ok (.baload, 1) := by decide +kernel
theorem dX9_told_98 : decode cX9_told 98 = .ok (.ifCond .eq 7, 3) := by decide +kernel
theorem dX9_told_101 : decode cX9_told 101 = .ok (.iconst 1, 1) := by decide +kernel
theorem dX9_told_102 : decode cX9_told 102 = .ok (.goto 4, 3) := by decide +kernel
theorem dX9_told_105 : decode cX9_told 105 = .ok (.iconst 0, 1) := by decide +kernel
theorem dX9_told_106 : decode cX9_told 106 = .ok (.ireturn, 1) := by decide +kernel
theorem dX9_told_107 : decode cX9_told 107 = .ok (.aload_n 0, 1) := by decide +kernel
theorem dX9_told_108 : decode cX9_told 108 = .ok (.getfield 68, 3) := by decide +kernel
theorem dX9_told_111 : decode cX9_told 111 = .ok (.iload_n 1, 1) := by decide +kernel
theorem dX9_told_112 : decode cX9_told 112 = .ok (.baload, 1) := by decide +kernel
theorem dX9_told_113 : decode cX9_told 113 = .ok (.ifCond .eq 7, 3) := by decide +kernel
theorem dX9_told_116 : decode cX9_told 116 = .ok (.iconst 1, 1) := by decide +kernel
theorem dX9_told_117 : decode cX9_told 117 = .ok (.goto 4, 3) := by decide +kernel
theorem dX9_told_120 : decode cX9_told 120 = .ok (.iconst 0, 1) := by decide +kernel
theorem dX9_told_121 : decode cX9_told 121 = .ok (.ireturn, 1) := by decide +kernel
theorem dX9_told_122 : decode cX9_told 122 = .ok (.aload_n 0, 1) := by decide +kernel
theorem dX9_told_123 : decode cX9_told 123 = .ok (.getfield 71, 3) := by decide +kernel
theorem dX9_told_126 : decode cX9_told 126 = .ok (.iload_n 1, 1) := by decide +kernel
theorem dX9_told_127 : decode cX9_told 127 = .ok (.baload, 1) := by decide +kernel
theorem dX9_told_128 : decode cX9_told 128 = .ok (.ifCond .eq 7, 3) := by decide +kernel
theorem dX9_told_131 : decode cX9_told 131 = .ok (.iconst 1, 1) := by decide +kernel
theorem dX9_told_132 : decode cX9_told 132 = .ok (.goto 4, 3) := by decide +kernel
theorem dX9_told_135 : decode cX9_told 135 = .ok (.iconst 0, 1) := by decide +kernel
theorem dX9_told_136 : decode cX9_told 136 = .ok (.ireturn, 1) := by decide +kernel
theorem dX9_told_137 : decode cX9_told 137 = .ok (.aload_n 0, 1) := by decide +kernel
theorem dX9_told_138 : decode cX9_told 138 = .ok (.getfield 74, 3) := by decide +kernel
theorem dX9_told_141 : decode cX9_told 141 = .ok (.iload_n 1, 1) := by decide +kernel
theorem dX9_told_142 : decode cX9_told 142 = .ok (.baload, 1) := by decide +kernel
theorem dX9_told_143 : decode cX9_told 143 = .ok (.ifCond .eq 7, 3) := by decide +kernel
theorem dX9_told_146 : decode cX9_told 146 = .ok (.iconst 1, 1) := by decide +kernel
theorem dX9_told_147 : decode cX9_told 147 = .ok (.goto 4, 3) := by decide +kernel
theorem dX9_told_150 : decode cX9_told 150 = .ok (.iconst 0, 1) := by decide +kernel
theorem dX9_told_151 : decode cX9_told 151 = .ok (.ireturn, 1) := by decide +kernel
theorem dX9_told_152 : decode cX9_told 152 = .ok (.aload_n 0, 1) := by decide +kernel
theorem dX9_told_153 : decode cX9_told 153 = .ok (.getfield 80, 3) := by decide +kernel
theorem dX9_told_156 : decode cX9_told 156 = .ok (.iload_n 1, 1) := by decide +kernel
theorem dX9_told_157 : decode cX9_told 157 = .ok (.iaload, 1) := by decide +kernel
theorem dX9_told_158 : decode cX9_told 158 = .ok (.ireturn, 1) := by decide +kernel
theorem dX9_told_159 : decode cX9_told 159 = .ok (.aload_n 0, 1) := by decide +kernel
theorem dX9_told_160 : decode cX9_told 160 = .ok (.getfield 83, 3) := by decide +kernel
theorem dX9_told_163 : decode cX9_told 163 = .ok (.iload_n 1, 1) := by decide +kernel
theorem dX9_told_164 : decode cX9_told 164 = .ok (.iaload, 1) := by decide +kernel
theorem dX9_told_165 : decode cX9_told 165 = .ok (.ireturn, 1) := by decide +kernel
theorem dX9_told_166 : decode cX9_told 166 = .ok (.iconst (-1), 1) := by decide +kernel
theorem dX9_told_167 : decode cX9_told 167 = .ok (.ireturn, 1) := by decide +kernel
theorem mcX9_told : x_mc yX9_told cX9_told 3 (some .int) 2 := ⟨wd_881, wd_4, by decide +kernel⟩
set_option maxHeartbeats 4000000 in
set_option maxRecDepth 100000 in
theorem kX9_told (l : Launch) (base : Nat) (D : va_G) (dA : Nat → ClassId) (F : Nat) (r0 : Option Nat) (x1 : Int32) (x2 : Int32) : x_Met l base D dA yX9_told cX9_told 3 (some .int) 2 43 [va_rf r0, .int x1, .int x2] (mX9_told F r0 x1 x2) (fun x => some (.int x)) := by
  refine x_Met.of [(0, .inr (.inl r0)), (1, .inl x1), (2, .inl x2)] (by decide) (Nat.le_of_ble_eq_true rfl) rfl rfl ?_
  intro p e R s m args below meth c σ a τ ls hfr hlo E hr hk hn S hM hl
  have E : x_E p s m args c cX9_told 3 "WireMoneyModel" D dA := E
  unfold mX9_told at hM
  refine w_aload_n E hl 0 dX9_told_0 rfl ?_
  refine w_iload_n E hl 1 dX9_told_1 rfl ?_
  refine w_cVi (rest := []) E S hl hM (kX9_isOrder l base D dA F r0 x1) mcX9_isOrder ⟨by decide, rfl, wd_830, wd_832, wp_29⟩ hfr hlo (by decide) rfl (Nat.le_of_ble_eq_true rfl) dX9_told_2 rfl (fun v2 σ H locs S hM => ?_)
  refine lv_if_ne (tgt := 10) E.1 E.2.1 dX9_told_5 (by decide) (fun c5 => ?_) (fun c5 => ?_)
  · replace hM := x_okF hM c5
    refine w_iload_n E hl 2 dX9_told_10 rfl ?_
    by_cases h11_0 : x2 = 0
    · replace hM := x_okT hM h11_0
      refine lv_tableIn (off := 53) (tgt := 64) E.1 E.2.1 dX9_told_11 (by rw [h11_0]; decide) (by rw [h11_0]; decide) (by rw [h11_0]; rfl) (by decide) ?_
      refine w_aload_n E hl 0 dX9_told_64 rfl ?_
      refine w_rR E S hM lk_9_49 rfl dX9_told_65 (fun v65 hM => ?_)
      refine w_iload_n E hl 1 dX9_told_68 rfl ?_
      refine w_aI E S hM dX9_told_69 (fun v69 hM => ?_)
      exact w_iret E S hM hr hk dX9_told_70
    replace hM := x_okF hM h11_0
    by_cases h11_1 : x2 = 1
    · replace hM := x_okT hM h11_1
      refine lv_tableIn (off := 60) (tgt := 71) E.1 E.2.1 dX9_told_11 (by rw [h11_1]; decide) (by rw [h11_1]; decide) (by rw [h11_1]; rfl) (by decide) ?_
      refine w_aload_n E hl 0 dX9_told_71 rfl ?_
      refine w_rR E S hM lk_9_52 rfl dX9_told_72 (fun v72 hM => ?_)
      refine w_iload_n E hl 1 dX9_told_75 rfl ?_
      refine w_aI E S hM dX9_told_76 (fun v76 hM => ?_)
      exact w_iret E S hM hr hk dX9_told_77
    replace hM := x_okF hM h11_1
    by_cases h11_2 : x2 = 2
    · replace hM := x_okT hM h11_2
      refine lv_tableIn (off := 67) (tgt := 78) E.1 E.2.1 dX9_told_11 (by rw [h11_2]; decide) (by rw [h11_2]; decide) (by rw [h11_2]; rfl) (by decide) ?_
      refine w_aload_n E hl 0 dX9_told_78 rfl ?_
      refine w_rR E S hM lk_9_55 rfl dX9_told_79 (fun v79 hM => ?_)
      refine w_iload_n E hl 1 dX9_told_82 rfl ?_
      refine w_aI E S hM dX9_told_83 (fun v83 hM => ?_)
      exact w_iret E S hM hr hk dX9_told_84
    replace hM := x_okF hM h11_2
    by_cases h11_3 : x2 = 3
    · replace hM := x_okT hM h11_3
      refine lv_tableIn (off := 74) (tgt := 85) E.1 E.2.1 dX9_told_11 (by rw [h11_3]; decide) (by rw [h11_3]; decide) (by rw [h11_3]; rfl) (by decide) ?_
      refine w_aload_n E hl 0 dX9_told_85 rfl ?_
      refine w_rR E S hM lk_9_61 rfl dX9_told_86 (fun v86 hM => ?_)
      refine w_iload_n E hl 1 dX9_told_89 rfl ?_
      refine w_aI E S hM dX9_told_90 (fun v90 hM => ?_)
      exact w_iret E S hM hr hk dX9_told_91
    replace hM := x_okF hM h11_3
    by_cases h11_4 : x2 = 4
    · replace hM := x_okT hM h11_4
      refine lv_tableIn (off := 81) (tgt := 92) E.1 E.2.1 dX9_told_11 (by rw [h11_4]; decide) (by rw [h11_4]; decide) (by rw [h11_4]; rfl) (by decide) ?_
      refine w_aload_n E hl 0 dX9_told_92 rfl ?_
      refine w_rR E S hM lk_9_64 rfl dX9_told_93 (fun v93 hM => ?_)
      refine w_iload_n E hl 1 dX9_told_96 rfl ?_
      refine w_aZ E S hM dX9_told_97 (fun v97 hM => ?_)
      refine lv_if_eq (tgt := 105) E.1 E.2.1 dX9_told_98 (by decide) (fun c98 => ?_) (fun c98 => ?_)
      · replace hM := x_okT hM c98
        refine lv_iconst (v := (0 : Int32)) E.1 E.2.1 dX9_told_105 (by decide) ?_
        exact w_iret E S hM hr hk dX9_told_106
      · replace hM := x_okF hM c98
        refine lv_iconst (v := (1 : Int32)) E.1 E.2.1 dX9_told_101 (by decide) ?_
        refine lv_goto (tgt := 106) E.1 E.2.1 dX9_told_102 (by decide) ?_
        exact w_iret E S hM hr hk dX9_told_106
    replace hM := x_okF hM h11_4
    by_cases h11_5 : x2 = 5
    · replace hM := x_okT hM h11_5
      refine lv_tableIn (off := 96) (tgt := 107) E.1 E.2.1 dX9_told_11 (by rw [h11_5]; decide) (by rw [h11_5]; decide) (by rw [h11_5]; rfl) (by decide) ?_
      refine w_aload_n E hl 0 dX9_told_107 rfl ?_
      refine w_rR E S hM lk_9_68 rfl dX9_told_108 (fun v108 hM => ?_)
      refine w_iload_n E hl 1 dX9_told_111 rfl ?_
      refine w_aZ E S hM dX9_told_112 (fun v112 hM => ?_)
      refine lv_if_eq (tgt := 120) E.1 E.2.1 dX9_told_113 (by decide) (fun c113 => ?_) (fun c113 => ?_)
      · replace hM := x_okT hM c113
        refine lv_iconst (v := (0 : Int32)) E.1 E.2.1 dX9_told_120 (by decide) ?_
        exact w_iret E S hM hr hk dX9_told_121
      · replace hM := x_okF hM c113
        refine lv_iconst (v := (1 : Int32)) E.1 E.2.1 dX9_told_116 (by decide) ?_
        refine lv_goto (tgt := 121) E.1 E.2.1 dX9_told_117 (by decide) ?_
        exact w_iret E S hM hr hk dX9_told_121
    replace hM := x_okF hM h11_5
    by_cases h11_6 : x2 = 6
    · replace hM := x_okT hM h11_6
      refine lv_tableIn (off := 111) (tgt := 122) E.1 E.2.1 dX9_told_11 (by rw [h11_6]; decide) (by rw [h11_6]; decide) (by rw [h11_6]; rfl) (by decide) ?_
      refine w_aload_n E hl 0 dX9_told_122 rfl ?_
      refine w_rR E S hM lk_9_71 rfl dX9_told_123 (fun v123 hM => ?_)
      refine w_iload_n E hl 1 dX9_told_126 rfl ?_
      refine w_aZ E S hM dX9_told_127 (fun v127 hM => ?_)
      refine lv_if_eq (tgt := 135) E.1 E.2.1 dX9_told_128 (by decide) (fun c128 => ?_) (fun c128 => ?_)
      · replace hM := x_okT hM c128
        refine lv_iconst (v := (0 : Int32)) E.1 E.2.1 dX9_told_135 (by decide) ?_
        exact w_iret E S hM hr hk dX9_told_136
      · replace hM := x_okF hM c128
        refine lv_iconst (v := (1 : Int32)) E.1 E.2.1 dX9_told_131 (by decide) ?_
        refine lv_goto (tgt := 136) E.1 E.2.1 dX9_told_132 (by decide) ?_
        exact w_iret E S hM hr hk dX9_told_136
    replace hM := x_okF hM h11_6
    by_cases h11_7 : x2 = 7
    · replace hM := x_okT hM h11_7
      refine lv_tableIn (off := 126) (tgt := 137) E.1 E.2.1 dX9_told_11 (by rw [h11_7]; decide) (by rw [h11_7]; decide) (by rw [h11_7]; rfl) (by decide) ?_
      refine w_aload_n E hl 0 dX9_told_137 rfl ?_
      refine w_rR E S hM lk_9_74 rfl dX9_told_138 (fun v138 hM => ?_)
      refine w_iload_n E hl 1 dX9_told_141 rfl ?_
      refine w_aZ E S hM dX9_told_142 (fun v142 hM => ?_)
      refine lv_if_eq (tgt := 150) E.1 E.2.1 dX9_told_143 (by decide) (fun c143 => ?_) (fun c143 => ?_)
      · replace hM := x_okT hM c143
        refine lv_iconst (v := (0 : Int32)) E.1 E.2.1 dX9_told_150 (by decide) ?_
        exact w_iret E S hM hr hk dX9_told_151
      · replace hM := x_okF hM c143
        refine lv_iconst (v := (1 : Int32)) E.1 E.2.1 dX9_told_146 (by decide) ?_
        refine lv_goto (tgt := 151) E.1 E.2.1 dX9_told_147 (by decide) ?_
        exact w_iret E S hM hr hk dX9_told_151
    replace hM := x_okF hM h11_7
    by_cases h11_8 : x2 = 8
    · replace hM := x_okT hM h11_8
      refine lv_tableIn (off := 141) (tgt := 152) E.1 E.2.1 dX9_told_11 (by rw [h11_8]; decide) (by rw [h11_8]; decide) (by rw [h11_8]; rfl) (by decide) ?_
      refine w_aload_n E hl 0 dX9_told_152 rfl ?_
      refine w_rR E S hM lk_9_80 rfl dX9_told_153 (fun v153 hM => ?_)
      refine w_iload_n E hl 1 dX9_told_156 rfl ?_
      refine w_aI E S hM dX9_told_157 (fun v157 hM => ?_)
      exact w_iret E S hM hr hk dX9_told_158
    replace hM := x_okF hM h11_8
    by_cases h11_9 : x2 = 9
    · replace hM := x_okT hM h11_9
      refine lv_tableIn (off := 148) (tgt := 159) E.1 E.2.1 dX9_told_11 (by rw [h11_9]; decide) (by rw [h11_9]; decide) (by rw [h11_9]; rfl) (by decide) ?_
      refine w_aload_n E hl 0 dX9_told_159 rfl ?_
      refine w_rR E S hM lk_9_83 rfl dX9_told_160 (fun v160 hM => ?_)
      refine w_iload_n E hl 1 dX9_told_163 rfl ?_
      refine w_aI E S hM dX9_told_164 (fun v164 hM => ?_)
      exact w_iret E S hM hr hk dX9_told_165
    replace hM := x_okF hM h11_9
    have n11_0 := lv_neT (a := 0) h11_0 (by decide)
    have n11_1 := lv_neT (a := 1) h11_1 (by decide)
    have n11_2 := lv_neT (a := 2) h11_2 (by decide)
    have n11_3 := lv_neT (a := 3) h11_3 (by decide)
    have n11_4 := lv_neT (a := 4) h11_4 (by decide)
    have n11_5 := lv_neT (a := 5) h11_5 (by decide)
    have n11_6 := lv_neT (a := 6) h11_6 (by decide)
    have n11_7 := lv_neT (a := 7) h11_7 (by decide)
    have n11_8 := lv_neT (a := 8) h11_8 (by decide)
    have n11_9 := lv_neT (a := 9) h11_9 (by decide)
    refine lv_tableOut (tgt := 166) E.1 E.2.1 dX9_told_11 (by omega) (by decide) ?_
    refine lv_iconst (v := (-1 : Int32)) E.1 E.2.1 dX9_told_166 (by decide) ?_
    exact w_iret E S hM hr hk dX9_told_167
  · replace hM := x_okT hM c5
    refine lv_iconst (v := (-1 : Int32)) E.1 E.2.1 dX9_told_8 (by decide) ?_
    exact w_iret E S hM hr hk dX9_told_9
theorem dX9_lack_0 : decode cX9_lack 0 = .ok (.aload_n 0, 1) := by decide +kernel
theorem dX9_lack_1 : decode cX9_lack 1 = .ok (.getfield 9, 3) := by decide +kernel
theorem dX9_lack_4 : decode cX9_lack 4 = .ok (.iload_n 1, 1) := by decide +kernel
theorem dX9_lack_5 : decode cX9_lack 5 = .ok (.iaload, 1) := by decide +kernel
theorem dX9_lack_6 : decode cX9_lack 6 = .ok (.ineg, 1) := by decide +kernel
theorem dX9_lack_7 : decode cX9_lack 7 = .ok (.istore_n 2, 1) := by decide +kernel
theorem dX9_lack_8 : decode cX9_lack 8 = .ok (.iconst 0, 1) := by decide +kernel
theorem dX9_lack_9 : decode cX9_lack 9 = .ok (.istore_n 3, 1) := by decide +kernel
theorem dX9_lack_10 : decode cX9_lack 10 = .ok (.iload_n 3, 1) := by decide +kernel
theorem dX9_lack_11 : decode cX9_lack 11 = .ok (.aload_n 0, 1) := by decide +kernel
theorem dX9_lack_12 : decode cX9_lack 12 = .ok (.getfield 142, 3) := by decide +kernel
theorem dX9_lack_15 : decode cX9_lack 15 = .ok (.if_icmp .ge 59, 3) := by decide +kernel
theorem dX9_lack_18 : decode cX9_lack 18 = .ok (.iload_n 2, 1) := by decide +kernel
theorem dX9_lack_19 : decode cX9_lack 19 = .ok (.aload_n 0, 1) := by decide +kernel
theorem dX9_lack_20 : decode cX9_lack 20 = .ok (.getfield 52, 3) := by decide +kernel
theorem dX9_lack_23 : decode cX9_lack 23 = .ok (.iload_n 3, 1) := by decide +kernel
theorem dX9_lack_24 : decode cX9_lack 24 = .ok (.iaload, 1) := by decide +kernel
theorem dX9_lack_25 : decode cX9_lack 25 = .ok (.iload_n 1, 1) := by decide +kernel
theorem dX9_lack_26 : decode cX9_lack 26 = .ok (.if_icmp .ne 39, 3) := by decide +kernel
theorem dX9_lack_29 : decode cX9_lack 29 = .ok (.aload_n 0, 1) := by decide +kernel
theorem dX9_lack_30 : decode cX9_lack 30 = .ok (.getfield 64, 3) := by decide +kernel
theorem dX9_lack_33 : decode cX9_lack 33 = .ok (.iload_n 3, 1) := by decide +kernel
theorem dX9_lack_34 : decode cX9_lack 34 = .ok (.baload, 1) := by decide +kernel
theorem dX9_lack_35 : decode cX9_lack 35 = .ok (.ifCond .eq 30, 3) := by decide +kernel
theorem dX9_lack_38 : decode cX9_lack 38 = .ok (.aload_n 0, 1) := by decide +kernel
theorem dX9_lack_39 : decode cX9_lack 39 = .ok (.getfield 68, 3) := by decide +kernel
theorem dX9_lack_42 : decode cX9_lack 42 = .ok (.iload_n 3, 1) := by decide +kernel
theorem dX9_lack_43 : decode cX9_lack 43 = .ok (.baload, 1) := by decide +kernel
theorem dX9_lack_44 : decode cX9_lack 44 = .ok (.ifCond .ne 21, 3) := by decide +kernel
theorem dX9_lack_47 : decode cX9_lack 47 = .ok (.aload_n 0, 1) := by decide +kernel
theorem dX9_lack_48 : decode cX9_lack 48 = .ok (.getfield 71, 3) := by decide +kernel
theorem dX9_lack_51 : decode cX9_lack 51 = .ok (.iload_n 3, 1) := by decide +kernel
theorem dX9_lack_52 : decode cX9_lack 52 = .ok (.baload, 1) := by decide +kernel
theorem dX9_lack_53 : decode cX9_lack 53 = .ok (.ifCond .ne 12, 3) := by decide +kernel
theorem dX9_lack_56 : decode cX9_lack 56 = .ok (.aload_n 0, 1) := by decide +kernel
theorem dX9_lack_57 : decode cX9_lack 57 = .ok (.getfield 55, 3) := by decide +kernel
theorem dX9_lack_60 : decode cX9_lack 60 = .ok (.iload_n 3, 1) := by decide +kernel
theorem dX9_lack_61 : decode cX9_lack 61 = .ok (.iaload, 1) := by decide +kernel
theorem dX9_lack_62 : decode cX9_lack 62 = .ok (.goto 4, 3) := by decide +kernel
theorem dX9_lack_65 : decode cX9_lack 65 = .ok (.iconst 0, 1) := by decide +kernel
theorem dX9_lack_66 : decode cX9_lack 66 = .ok (.iadd, 1) := by decide +kernel
theorem dX9_lack_67 : decode cX9_lack 67 = .ok (.istore_n 2, 1) := by decide +kernel
theorem dX9_lack_68 : decode cX9_lack 68 = .ok (.iinc 3 1, 3) := by decide +kernel
theorem dX9_lack_71 : decode cX9_lack 71 = .ok (.goto (-61), 3) := by decide +kernel
theorem dX9_lack_74 : decode cX9_lack 74 = .ok (.iload_n 2, 1) := by decide +kernel
theorem dX9_lack_75 : decode cX9_lack 75 = .ok (.ifCond .le 7, 3) := by decide +kernel
theorem dX9_lack_78 : decode cX9_lack 78 = .ok (.iload_n 2, 1) := by decide +kernel
theorem dX9_lack_79 : decode cX9_lack 79 = .ok (.goto 4, 3) := by decide +kernel
theorem dX9_lack_82 : decode cX9_lack 82 = .ok (.iconst 0, 1) := by decide +kernel
theorem dX9_lack_83 : decode cX9_lack 83 = .ok (.ireturn, 1) := by decide +kernel
set_option maxHeartbeats 4000000 in
set_option maxRecDepth 100000 in
theorem bX9_lack_10 {p : Program} {l : Launch} {e : Env} {R : Room} {s : State} {m : MethodId} {args : Array Value} {below : List Frame} {meth : Method} {c : Code} {base : Nat} {D : va_G} {dA : Nat → ClassId} {σ0 : PH} {z : Int32 × PH} {F : Nat} (E : x_E p s m args c cX9_lack 4 "WireMoneyModel" D dA) (hr : meth.sig.returnType = (some .int)) (hk : meth.locks = false) (hfr : R.frames = 0) (hlo : R.locals = 0) : ∀ (n : Nat) (y0 : Option Nat) (y1 : Int32) (y2 : Int32) (y3 : Int32) (σ : PH) (H : Heap) (locs : List Loc) (ls : Array Slot), x_S base D dA R s σ0 z.2 σ H locs → x_rn (mX9_lack_10 F n y0 y1 y2 y3) σ = some z → x_lv ls 4 [(0, .inr (.inl y0)), (1, .inl y1), (2, .inl y2), (3, .inl y3)] → W p l e R s m args below meth c H locs (x_N σ - x_N σ0) (x_U σ - x_U σ0) (x_end below args s base D dA (fun x => some (.int x)) σ0 z) (F0 m 10 ls []) := by
  intro n
  induction n with
  | zero =>
    intro y0 y1 y2 y3 σ H locs ls S hM hl
    cases hM
  | succ n ih =>
    intro y0 y1 y2 y3 σ H locs ls S hM hl
    rw [mX9_lack_10] at hM
    refine w_iload_n E hl 3 dX9_lack_10 rfl ?_
    refine w_aload_n E hl 0 dX9_lack_11 rfl ?_
    refine w_rI E S hM lk_9_142 rfl dX9_lack_12 (fun v12 hM => ?_)
    refine lv_icmp_ge (tgt := 74) E.1 E.2.1 dX9_lack_15 (by decide) (fun c15 => ?_) (fun c15 => ?_)
    · replace hM := x_okT hM c15
      refine w_iload_n E hl 2 dX9_lack_74 rfl ?_
      refine lv_if_le (tgt := 82) E.1 E.2.1 dX9_lack_75 (by decide) (fun c75 => ?_) (fun c75 => ?_)
      · replace hM := x_okT hM c75
        refine lv_iconst (v := (0 : Int32)) E.1 E.2.1 dX9_lack_82 (by decide) ?_
        exact w_iret E S hM hr hk dX9_lack_83
      · replace hM := x_okF hM c75
        refine w_iload_n E hl 2 dX9_lack_78 rfl ?_
        refine lv_goto (tgt := 83) E.1 E.2.1 dX9_lack_79 (by decide) ?_
        exact w_iret E S hM hr hk dX9_lack_83
    · replace hM := x_okF hM c15
      refine w_iload_n E hl 2 dX9_lack_18 rfl ?_
      refine w_aload_n E hl 0 dX9_lack_19 rfl ?_
      refine w_rR E S hM lk_9_52 rfl dX9_lack_20 (fun v20 hM => ?_)
      refine w_iload_n E hl 3 dX9_lack_23 rfl ?_
      refine w_aI E S hM dX9_lack_24 (fun v24 hM => ?_)
      refine w_iload_n E hl 1 dX9_lack_25 rfl ?_
      refine lv_icmp_ne (tgt := 65) E.1 E.2.1 dX9_lack_26 (by decide) (fun c26 => ?_) (fun c26 => ?_)
      · replace hM := x_okF hM c26
        refine lv_iconst (v := (0 : Int32)) E.1 E.2.1 dX9_lack_65 (by decide) ?_
        refine lv_iadd E.1 E.2.1 dX9_lack_66 ?_
        refine w_nm hM (fun v67 hM => ?_)
        refine w_istore_n (lt' := [(2, .inl v67), (0, .inr (.inl y0)), (1, .inl y1), (3, .inl y3)]) E hl dX9_lack_67 (by decide) rfl (fun ls hl => ?_)
        refine w_iincN (ltf := fun v68 => [(3, .inl v68), (2, .inl v67), (0, .inr (.inl y0)), (1, .inl y1)]) E hl 3 hM dX9_lack_68 rfl (by decide) (by decide) (fun _ => rfl) (fun v68 ls hM hl => ?_)
        refine lv_goto (tgt := 10) E.1 E.2.1 dX9_lack_71 (by decide) ?_
        exact ih y0 y1 v67 v68 _ _ _ _ S hM (x_lv_sub hl [2, 3, 1, 0] rfl)
      · replace hM := x_okT hM c26
        refine w_aload_n E hl 0 dX9_lack_29 rfl ?_
        refine w_rR E S hM lk_9_64 rfl dX9_lack_30 (fun v30 hM => ?_)
        refine w_iload_n E hl 3 dX9_lack_33 rfl ?_
        refine w_aZ E S hM dX9_lack_34 (fun v34 hM => ?_)
        refine lv_if_eq (tgt := 65) E.1 E.2.1 dX9_lack_35 (by decide) (fun c35 => ?_) (fun c35 => ?_)
        · replace hM := x_okT hM c35
          refine lv_iconst (v := (0 : Int32)) E.1 E.2.1 dX9_lack_65 (by decide) ?_
          refine lv_iadd E.1 E.2.1 dX9_lack_66 ?_
          refine w_nm hM (fun v67 hM => ?_)
          refine w_istore_n (lt' := [(2, .inl v67), (0, .inr (.inl y0)), (1, .inl y1), (3, .inl y3)]) E hl dX9_lack_67 (by decide) rfl (fun ls hl => ?_)
          refine w_iincN (ltf := fun v68 => [(3, .inl v68), (2, .inl v67), (0, .inr (.inl y0)), (1, .inl y1)]) E hl 3 hM dX9_lack_68 rfl (by decide) (by decide) (fun _ => rfl) (fun v68 ls hM hl => ?_)
          refine lv_goto (tgt := 10) E.1 E.2.1 dX9_lack_71 (by decide) ?_
          exact ih y0 y1 v67 v68 _ _ _ _ S hM (x_lv_sub hl [2, 3, 1, 0] rfl)
        · replace hM := x_okF hM c35
          refine w_aload_n E hl 0 dX9_lack_38 rfl ?_
          refine w_rR E S hM lk_9_68 rfl dX9_lack_39 (fun v39 hM => ?_)
          refine w_iload_n E hl 3 dX9_lack_42 rfl ?_
          refine w_aZ E S hM dX9_lack_43 (fun v43 hM => ?_)
          refine lv_if_ne (tgt := 65) E.1 E.2.1 dX9_lack_44 (by decide) (fun c44 => ?_) (fun c44 => ?_)
          · replace hM := x_okF hM c44
            refine lv_iconst (v := (0 : Int32)) E.1 E.2.1 dX9_lack_65 (by decide) ?_
            refine lv_iadd E.1 E.2.1 dX9_lack_66 ?_
            refine w_nm hM (fun v67 hM => ?_)
            refine w_istore_n (lt' := [(2, .inl v67), (0, .inr (.inl y0)), (1, .inl y1), (3, .inl y3)]) E hl dX9_lack_67 (by decide) rfl (fun ls hl => ?_)
            refine w_iincN (ltf := fun v68 => [(3, .inl v68), (2, .inl v67), (0, .inr (.inl y0)), (1, .inl y1)]) E hl 3 hM dX9_lack_68 rfl (by decide) (by decide) (fun _ => rfl) (fun v68 ls hM hl => ?_)
            refine lv_goto (tgt := 10) E.1 E.2.1 dX9_lack_71 (by decide) ?_
            exact ih y0 y1 v67 v68 _ _ _ _ S hM (x_lv_sub hl [2, 3, 1, 0] rfl)
          · replace hM := x_okT hM c44
            refine w_aload_n E hl 0 dX9_lack_47 rfl ?_
            refine w_rR E S hM lk_9_71 rfl dX9_lack_48 (fun v48 hM => ?_)
            refine w_iload_n E hl 3 dX9_lack_51 rfl ?_
            refine w_aZ E S hM dX9_lack_52 (fun v52 hM => ?_)
            refine lv_if_ne (tgt := 65) E.1 E.2.1 dX9_lack_53 (by decide) (fun c53 => ?_) (fun c53 => ?_)
            · replace hM := x_okF hM c53
              refine lv_iconst (v := (0 : Int32)) E.1 E.2.1 dX9_lack_65 (by decide) ?_
              refine lv_iadd E.1 E.2.1 dX9_lack_66 ?_
              refine w_nm hM (fun v67 hM => ?_)
              refine w_istore_n (lt' := [(2, .inl v67), (0, .inr (.inl y0)), (1, .inl y1), (3, .inl y3)]) E hl dX9_lack_67 (by decide) rfl (fun ls hl => ?_)
              refine w_iincN (ltf := fun v68 => [(3, .inl v68), (2, .inl v67), (0, .inr (.inl y0)), (1, .inl y1)]) E hl 3 hM dX9_lack_68 rfl (by decide) (by decide) (fun _ => rfl) (fun v68 ls hM hl => ?_)
              refine lv_goto (tgt := 10) E.1 E.2.1 dX9_lack_71 (by decide) ?_
              exact ih y0 y1 v67 v68 _ _ _ _ S hM (x_lv_sub hl [2, 3, 1, 0] rfl)
            · replace hM := x_okT hM c53
              refine w_aload_n E hl 0 dX9_lack_56 rfl ?_
              refine w_rR E S hM lk_9_55 rfl dX9_lack_57 (fun v57 hM => ?_)
              refine w_iload_n E hl 3 dX9_lack_60 rfl ?_
              refine w_aI E S hM dX9_lack_61 (fun v61 hM => ?_)
              refine lv_goto (tgt := 66) E.1 E.2.1 dX9_lack_62 (by decide) ?_
              refine lv_iadd E.1 E.2.1 dX9_lack_66 ?_
              refine w_nm hM (fun v67 hM => ?_)
              refine w_istore_n (lt' := [(2, .inl v67), (0, .inr (.inl y0)), (1, .inl y1), (3, .inl y3)]) E hl dX9_lack_67 (by decide) rfl (fun ls hl => ?_)
              refine w_iincN (ltf := fun v68 => [(3, .inl v68), (2, .inl v67), (0, .inr (.inl y0)), (1, .inl y1)]) E hl 3 hM dX9_lack_68 rfl (by decide) (by decide) (fun _ => rfl) (fun v68 ls hM hl => ?_)
              refine lv_goto (tgt := 10) E.1 E.2.1 dX9_lack_71 (by decide) ?_
              exact ih y0 y1 v67 v68 _ _ _ _ S hM (x_lv_sub hl [2, 3, 1, 0] rfl)
theorem mcX9_lack : x_mc yX9_lack cX9_lack 4 (some .int) 1 := ⟨wd_890, wd_4, by decide +kernel⟩
set_option maxHeartbeats 4000000 in
set_option maxRecDepth 100000 in
theorem kX9_lack (l : Launch) (base : Nat) (D : va_G) (dA : Nat → ClassId) (F : Nat) (r0 : Option Nat) (x1 : Int32) : x_Met l base D dA yX9_lack cX9_lack 4 (some .int) 0 0 [va_rf r0, .int x1] (mX9_lack F r0 x1) (fun x => some (.int x)) := by
  refine x_Met.of [(0, .inr (.inl r0)), (1, .inl x1)] (by decide) (Nat.le_of_ble_eq_true rfl) rfl rfl ?_
  intro p e R s m args below meth c σ a τ ls hfr hlo E hr hk hn S hM hl
  have E : x_E p s m args c cX9_lack 4 "WireMoneyModel" D dA := E
  unfold mX9_lack at hM
  refine w_aload_n E hl 0 dX9_lack_0 rfl ?_
  refine w_rR E S hM lk_9_9 rfl dX9_lack_1 (fun v1 hM => ?_)
  refine w_iload_n E hl 1 dX9_lack_4 rfl ?_
  refine w_aI E S hM dX9_lack_5 (fun v5 hM => ?_)
  refine lv_ineg E.1 E.2.1 dX9_lack_6 ?_
  refine w_nm hM (fun v7 hM => ?_)
  refine w_istore_n (lt' := [(2, .inl v7), (0, .inr (.inl r0)), (1, .inl x1)]) E hl dX9_lack_7 (by decide) rfl (fun ls hl => ?_)
  refine lv_iconst (v := (0 : Int32)) E.1 E.2.1 dX9_lack_8 (by decide) ?_
  refine w_istore_n (lt' := [(3, .inl (0 : Int32)), (2, .inl v7), (0, .inr (.inl r0)), (1, .inl x1)]) E hl dX9_lack_9 (by decide) rfl (fun ls hl => ?_)
  exact bX9_lack_10 E hr hk hfr hlo F r0 x1 v7 (0 : Int32) _ _ _ _ S hM (x_lv_sub hl [2, 3, 1, 0] rfl)
theorem dX9_at_0 : decode cX9_at 0 = .ok (.aload_n 0, 1) := by decide +kernel
theorem dX9_at_1 : decode cX9_at 1 = .ok (.iload_n 1, 1) := by decide +kernel
theorem dX9_at_2 : decode cX9_at 2 = .ok (.invokevirtual 152, 3) := by decide +kernel
theorem dX9_at_5 : decode cX9_at 5 = .ok (.ifCond .ne 6, 3) := by decide +kernel
theorem dX9_at_8 : decode cX9_at 8 = .ok (.ldc 227, 2) := by decide +kernel
theorem dX9_at_10 : decode cX9_at 10 = .ok (.ireturn, 1) := by decide +kernel
theorem dX9_at_11 : decode cX9_at 11 = .ok (.iconst 0, 1) := by decide +kernel
theorem dX9_at_12 : decode cX9_at 12 = .ok (.istore_n 3, 1) := by decide +kernel
theorem dX9_at_13 : decode cX9_at 13 = .ok (.iload_n 2, 1) := by decide +kernel
theorem dX9_at_14 : decode cX9_at 14 = .ok (.tableswitch 128 0 5 #[38, 45, 59, 65, 72, 79], 38) := by decide +kernel
theorem dX9_at_52 : decode cX9_at 52 = .ok (.aload_n 0, 1) := by decide +kernel
theorem dX9_at_53 : decode cX9_at 53 = .ok (.getfield 9, 3) := by decide +kernel
theorem dX9_at_56 : decode cX9_at 56 = .ok (.iload_n 1, 1) := by decide +kernel
theorem dX9_at_57 : decode cX9_at 57 = .ok (.iaload, 1) := by decide +kernel
theorem dX9_at_58 : decode cX9_at 58 = .ok (.ireturn, 1) := by decide +kernel
theorem dX9_at_59 : decode cX9_at 59 = .ok (.aload_n 0, 1) := by decide +kernel
theorem dX9_at_60 : decode cX9_at 60 = .ok (.iload_n 1, 1) := by decide +kernel
theorem dX9_at_61 : decode cX9_at 61 = .ok (.invokevirtual 189, 3) := by decide +kernel
theorem dX9_at_64 : decode cX9_at 64 = .ok (.ifCond .eq 7, 3) := by decide +kernel
theorem dX9_at_67 : decode cX9_at 67 = .ok (.iconst 1, 1) := by decide +kernel
theorem dX9_at_68 : decode cX9_at 68 = .ok (.goto 4, 3) := by decide +kernel
theorem dX9_at_71 : decode cX9_at 71 = .ok (.iconst 0, 1) := by decide +kernel
theorem dX9_at_72 : decode cX9_at 72 = .ok (.ireturn, 1) := by decide +kernel
theorem dX9_at_73 : decode cX9_at 73 = .ok (.aload_n 0, 1) := by decide +kernel
theorem dX9_at_74 : decode cX9_at 74 = .ok (.iload_n 1, 1) := by decide +kernel
theorem dX9_at_75 : decode cX9_at 75 = .ok (.invokevirtual 228, 3) := by decide +kernel
theorem dX9_at_78 : decode cX9_at 78 = .ok (.ireturn, 1) := by decide +kernel
theorem dX9_at_79 : decode cX9_at 79 = .ok (.aload_n 0, 1) := by decide +kernel
theorem dX9_at_80 : decode cX9_at 80 = .ok (.getfield 22, 3) := by decide +kernel
theorem dX9_at_83 : decode cX9_at 83 = .ok (.iload_n 1, 1) := by decide +kernel
theorem dX9_at_84 : decode cX9_at 84 = .ok (.iaload, 1) := by decide +kernel
theorem dX9_at_85 : decode cX9_at 85 = .ok (.ireturn, 1) := by decide +kernel
theorem dX9_at_86 : decode cX9_at 86 = .ok (.aload_n 0, 1) := by decide +kernel
theorem dX9_at_87 : decode cX9_at 87 = .ok (.getfield 19, 3) := by decide +kernel
theorem dX9_at_90 : decode cX9_at 90 = .ok (.iload_n 1, 1) := by decide +kernel
theorem dX9_at_91 : decode cX9_at 91 = .ok (.iaload, 1) := by decide +kernel
theorem dX9_at_92 : decode cX9_at 92 = .ok (.ireturn, 1) := by decide +kernel
theorem dX9_at_93 : decode cX9_at 93 = .ok (.iconst 0, 1) := by decide +kernel
theorem dX9_at_94 : decode cX9_at 94 = .ok (.istore 4, 2) := by decide +kernel
theorem dX9_at_96 : decode cX9_at 96 = .ok (.iload 4, 2) := by decide +kernel
theorem dX9_at_98 : decode cX9_at 98 = .ok (.aload_n 0, 1) := by decide +kernel
theorem dX9_at_99 : decode cX9_at 99 = .ok (.getfield 173, 3) := by decide +kernel
theorem dX9_at_102 : decode cX9_at 102 = .ok (.if_icmp .ge 38, 3) := by decide +kernel
theorem dX9_at_105 : decode cX9_at 105 = .ok (.iload_n 3, 1) := by decide +kernel
theorem dX9_at_106 : decode cX9_at 106 = .ok (.aload_n 0, 1) := by decide +kernel
theorem dX9_at_107 : decode cX9_at 107 = .ok (.getfield 98, 3) := by decide +kernel
theorem dX9_at_110 : decode cX9_at 110 = .ok (.iload 4, 2) := by decide +kernel
theorem dX9_at_112 : decode cX9_at 112 = .ok (.iaload, 1) := by decide +kernel
theorem dX9_at_113 : decode cX9_at 113 = .ok (.ifCond .ne 18, 3) := by decide +kernel
theorem dX9_at_116 : decode cX9_at 116 = .ok (.aload_n 0, 1) := by decide +kernel
theorem dX9_at_117 : decode cX9_at 117 = .ok (.getfield 101, 3) := by decide +kernel
theorem dX9_at_120 : decode cX9_at 120 = .ok (.iload 4, 2) := by decide +kernel
theorem dX9_at_122 : decode cX9_at 122 = .ok (.iaload, 1) := by decide +kernel
theorem dX9_at_123 : decode cX9_at 123 = .ok (.iload_n 1, 1) := by decide +kernel
theorem dX9_at_124 : decode cX9_at 124 = .ok (.if_icmp .ne 7, 3) := by decide +kernel
theorem dX9_at_127 : decode cX9_at 127 = .ok (.iconst 1, 1) := by decide +kernel
theorem dX9_at_128 : decode cX9_at 128 = .ok (.goto 4, 3) := by decide +kernel
theorem dX9_at_131 : decode cX9_at 131 = .ok (.iconst 0, 1) := by decide +kernel
theorem dX9_at_132 : decode cX9_at 132 = .ok (.iadd, 1) := by decide +kernel
theorem dX9_at_133 : decode cX9_at 133 = .ok (.istore_n 3, 1) := by decide +kernel
theorem dX9_at_134 : decode cX9_at 134 = .ok (.iinc 4 1, 3) := by decide +kernel
theorem dX9_at_137 : decode cX9_at 137 = .ok (.goto (-41), 3) := by decide +kernel
theorem dX9_at_140 : decode cX9_at 140 = .ok (.iload_n 3, 1) := by decide +kernel
theorem dX9_at_141 : decode cX9_at 141 = .ok (.ireturn, 1) := by decide +kernel
theorem dX9_at_142 : decode cX9_at 142 = .ok (.ldc 227, 2) := by decide +kernel
theorem dX9_at_144 : decode cX9_at 144 = .ok (.ireturn, 1) := by decide +kernel
set_option maxHeartbeats 4000000 in
set_option maxRecDepth 100000 in
theorem bX9_at_96 {p : Program} {l : Launch} {e : Env} {R : Room} {s : State} {m : MethodId} {args : Array Value} {below : List Frame} {meth : Method} {c : Code} {base : Nat} {D : va_G} {dA : Nat → ClassId} {σ0 : PH} {z : Int32 × PH} {F : Nat} (E : x_E p s m args c cX9_at 5 "WireMoneyModel" D dA) (hr : meth.sig.returnType = (some .int)) (hk : meth.locks = false) (hfr : R.frames = 2) (hlo : R.locals = 43) : ∀ (n : Nat) (y0 : Option Nat) (y1 : Int32) (y3 : Int32) (y4 : Int32) (σ : PH) (H : Heap) (locs : List Loc) (ls : Array Slot), x_S base D dA R s σ0 z.2 σ H locs → x_rn (mX9_at_96 F n y0 y1 y3 y4) σ = some z → x_lv ls 5 [(0, .inr (.inl y0)), (1, .inl y1), (3, .inl y3), (4, .inl y4)] → W p l e R s m args below meth c H locs (x_N σ - x_N σ0) (x_U σ - x_U σ0) (x_end below args s base D dA (fun x => some (.int x)) σ0 z) (F0 m 96 ls []) := by
  intro n
  induction n with
  | zero =>
    intro y0 y1 y3 y4 σ H locs ls S hM hl
    cases hM
  | succ n ih =>
    intro y0 y1 y3 y4 σ H locs ls S hM hl
    rw [mX9_at_96] at hM
    refine w_iload E hl 3 dX9_at_96 rfl ?_
    refine w_aload_n E hl 0 dX9_at_98 rfl ?_
    refine w_rI E S hM lk_9_173 rfl dX9_at_99 (fun v99 hM => ?_)
    refine lv_icmp_ge (tgt := 140) E.1 E.2.1 dX9_at_102 (by decide) (fun c102 => ?_) (fun c102 => ?_)
    · replace hM := x_okT hM c102
      refine w_iload_n E hl 2 dX9_at_140 rfl ?_
      exact w_iret E S hM hr hk dX9_at_141
    · replace hM := x_okF hM c102
      refine w_iload_n E hl 2 dX9_at_105 rfl ?_
      refine w_aload_n E hl 0 dX9_at_106 rfl ?_
      refine w_rR E S hM lk_9_98 rfl dX9_at_107 (fun v107 hM => ?_)
      refine w_iload E hl 3 dX9_at_110 rfl ?_
      refine w_aI E S hM dX9_at_112 (fun v112 hM => ?_)
      refine lv_if_ne (tgt := 131) E.1 E.2.1 dX9_at_113 (by decide) (fun c113 => ?_) (fun c113 => ?_)
      · replace hM := x_okF hM c113
        refine lv_iconst (v := (0 : Int32)) E.1 E.2.1 dX9_at_131 (by decide) ?_
        refine lv_iadd E.1 E.2.1 dX9_at_132 ?_
        refine w_nm hM (fun v133 hM => ?_)
        refine w_istore_n (lt' := [(3, .inl v133), (0, .inr (.inl y0)), (1, .inl y1), (4, .inl y4)]) E hl dX9_at_133 (by decide) rfl (fun ls hl => ?_)
        refine w_iincN (ltf := fun v134 => [(4, .inl v134), (3, .inl v133), (0, .inr (.inl y0)), (1, .inl y1)]) E hl 3 hM dX9_at_134 rfl (by decide) (by decide) (fun _ => rfl) (fun v134 ls hM hl => ?_)
        refine lv_goto (tgt := 96) E.1 E.2.1 dX9_at_137 (by decide) ?_
        exact ih y0 y1 v133 v134 _ _ _ _ S hM (x_lv_sub hl [2, 3, 1, 0] rfl)
      · replace hM := x_okT hM c113
        refine w_aload_n E hl 0 dX9_at_116 rfl ?_
        refine w_rR E S hM lk_9_101 rfl dX9_at_117 (fun v117 hM => ?_)
        refine w_iload E hl 3 dX9_at_120 rfl ?_
        refine w_aI E S hM dX9_at_122 (fun v122 hM => ?_)
        refine w_iload_n E hl 1 dX9_at_123 rfl ?_
        refine lv_icmp_ne (tgt := 131) E.1 E.2.1 dX9_at_124 (by decide) (fun c124 => ?_) (fun c124 => ?_)
        · replace hM := x_okF hM c124
          refine lv_iconst (v := (0 : Int32)) E.1 E.2.1 dX9_at_131 (by decide) ?_
          refine lv_iadd E.1 E.2.1 dX9_at_132 ?_
          refine w_nm hM (fun v133 hM => ?_)
          refine w_istore_n (lt' := [(3, .inl v133), (0, .inr (.inl y0)), (1, .inl y1), (4, .inl y4)]) E hl dX9_at_133 (by decide) rfl (fun ls hl => ?_)
          refine w_iincN (ltf := fun v134 => [(4, .inl v134), (3, .inl v133), (0, .inr (.inl y0)), (1, .inl y1)]) E hl 3 hM dX9_at_134 rfl (by decide) (by decide) (fun _ => rfl) (fun v134 ls hM hl => ?_)
          refine lv_goto (tgt := 96) E.1 E.2.1 dX9_at_137 (by decide) ?_
          exact ih y0 y1 v133 v134 _ _ _ _ S hM (x_lv_sub hl [2, 3, 1, 0] rfl)
        · replace hM := x_okT hM c124
          refine lv_iconst (v := (1 : Int32)) E.1 E.2.1 dX9_at_127 (by decide) ?_
          refine lv_goto (tgt := 132) E.1 E.2.1 dX9_at_128 (by decide) ?_
          refine lv_iadd E.1 E.2.1 dX9_at_132 ?_
          refine w_nm hM (fun v133 hM => ?_)
          refine w_istore_n (lt' := [(3, .inl v133), (0, .inr (.inl y0)), (1, .inl y1), (4, .inl y4)]) E hl dX9_at_133 (by decide) rfl (fun ls hl => ?_)
          refine w_iincN (ltf := fun v134 => [(4, .inl v134), (3, .inl v133), (0, .inr (.inl y0)), (1, .inl y1)]) E hl 3 hM dX9_at_134 rfl (by decide) (by decide) (fun _ => rfl) (fun v134 ls hM hl => ?_)
          refine lv_goto (tgt := 96) E.1 E.2.1 dX9_at_137 (by decide) ?_
          exact ih y0 y1 v133 v134 _ _ _ _ S hM (x_lv_sub hl [2, 3, 1, 0] rfl)
theorem mcX9_at : x_mc yX9_at cX9_at 5 (some .int) 2 := ⟨wd_885, wd_4, by decide +kernel⟩
set_option maxHeartbeats 4000000 in
set_option maxRecDepth 100000 in
theorem kX9_at (l : Launch) (base : Nat) (D : va_G) (dA : Nat → ClassId) (F : Nat) (r0 : Option Nat) (x1 : Int32) (x2 : Int32) : x_Met l base D dA yX9_at cX9_at 5 (some .int) 2 43 [va_rf r0, .int x1, .int x2] (mX9_at F r0 x1 x2) (fun x => some (.int x)) := by
  refine x_Met.of [(0, .inr (.inl r0)), (1, .inl x1), (2, .inl x2)] (by decide) (Nat.le_of_ble_eq_true rfl) rfl rfl ?_
  intro p e R s m args below meth c σ a τ ls hfr hlo E hr hk hn S hM hl
  have E : x_E p s m args c cX9_at 5 "WireMoneyModel" D dA := E
  unfold mX9_at at hM
  refine w_aload_n E hl 0 dX9_at_0 rfl ?_
  refine w_iload_n E hl 1 dX9_at_1 rfl ?_
  refine w_cVi (rest := []) E S hl hM (kX9_isCounter l base D dA F r0 x1) mcX9_isCounter ⟨by decide, rfl, wd_769, wd_771, wp_22⟩ hfr hlo (by decide) rfl (Nat.le_of_ble_eq_true rfl) dX9_at_2 rfl (fun v2 σ H locs S hM => ?_)
  refine lv_if_ne (tgt := 11) E.1 E.2.1 dX9_at_5 (by decide) (fun c5 => ?_) (fun c5 => ?_)
  · replace hM := x_okF hM c5
    refine lv_iconst (v := (0 : Int32)) E.1 E.2.1 dX9_at_11 (by decide) ?_
    refine w_istore_n (lt' := [(3, .inl (0 : Int32)), (0, .inr (.inl r0)), (1, .inl x1), (2, .inl x2)]) E hl dX9_at_12 (by decide) rfl (fun ls hl => ?_)
    refine w_iload_n E hl 3 dX9_at_13 rfl ?_
    by_cases h14_0 : x2 = 0
    · replace hM := x_okT hM h14_0
      refine lv_tableIn (off := 38) (tgt := 52) E.1 E.2.1 dX9_at_14 (by rw [h14_0]; decide) (by rw [h14_0]; decide) (by rw [h14_0]; rfl) (by decide) ?_
      refine w_aload_n E hl 1 dX9_at_52 rfl ?_
      refine w_rR E S hM lk_9_9 rfl dX9_at_53 (fun v53 hM => ?_)
      refine w_iload_n E hl 2 dX9_at_56 rfl ?_
      refine w_aI E S hM dX9_at_57 (fun v57 hM => ?_)
      exact w_iret E S hM hr hk dX9_at_58
    replace hM := x_okF hM h14_0
    by_cases h14_1 : x2 = 1
    · replace hM := x_okT hM h14_1
      refine lv_tableIn (off := 45) (tgt := 59) E.1 E.2.1 dX9_at_14 (by rw [h14_1]; decide) (by rw [h14_1]; decide) (by rw [h14_1]; rfl) (by decide) ?_
      refine w_aload_n E hl 1 dX9_at_59 rfl ?_
      refine w_iload_n E hl 2 dX9_at_60 rfl ?_
      refine w_cVi (rest := []) E S hl hM (kX9_isOpen l base D dA F r0 x1) mcX9_isOpen ⟨by decide, rfl, wd_795, wd_797, wp_23⟩ hfr hlo (by decide) rfl (Nat.le_of_ble_eq_true rfl) dX9_at_61 rfl (fun v61 σ H locs S hM => ?_)
      refine lv_if_eq (tgt := 71) E.1 E.2.1 dX9_at_64 (by decide) (fun c64 => ?_) (fun c64 => ?_)
      · replace hM := x_okT hM c64
        refine lv_iconst (v := (0 : Int32)) E.1 E.2.1 dX9_at_71 (by decide) ?_
        exact w_iret E S hM hr hk dX9_at_72
      · replace hM := x_okF hM c64
        refine lv_iconst (v := (1 : Int32)) E.1 E.2.1 dX9_at_67 (by decide) ?_
        refine lv_goto (tgt := 72) E.1 E.2.1 dX9_at_68 (by decide) ?_
        exact w_iret E S hM hr hk dX9_at_72
    replace hM := x_okF hM h14_1
    by_cases h14_2 : x2 = 2
    · replace hM := x_okT hM h14_2
      refine lv_tableIn (off := 59) (tgt := 73) E.1 E.2.1 dX9_at_14 (by rw [h14_2]; decide) (by rw [h14_2]; decide) (by rw [h14_2]; rfl) (by decide) ?_
      refine w_aload_n E hl 1 dX9_at_73 rfl ?_
      refine w_iload_n E hl 2 dX9_at_74 rfl ?_
      refine w_cVi (rest := []) E S hl hM (kX9_lack l base D dA F r0 x1) mcX9_lack ⟨by decide, rfl, wd_887, wd_889, wp_35⟩ hfr hlo (by decide) rfl (Nat.le_of_ble_eq_true rfl) dX9_at_75 rfl (fun v75 σ H locs S hM => ?_)
      exact w_iret E S hM hr hk dX9_at_78
    replace hM := x_okF hM h14_2
    by_cases h14_3 : x2 = 3
    · replace hM := x_okT hM h14_3
      refine lv_tableIn (off := 65) (tgt := 79) E.1 E.2.1 dX9_at_14 (by rw [h14_3]; decide) (by rw [h14_3]; decide) (by rw [h14_3]; rfl) (by decide) ?_
      refine w_aload_n E hl 1 dX9_at_79 rfl ?_
      refine w_rR E S hM lk_9_22 rfl dX9_at_80 (fun v80 hM => ?_)
      refine w_iload_n E hl 2 dX9_at_83 rfl ?_
      refine w_aI E S hM dX9_at_84 (fun v84 hM => ?_)
      exact w_iret E S hM hr hk dX9_at_85
    replace hM := x_okF hM h14_3
    by_cases h14_4 : x2 = 4
    · replace hM := x_okT hM h14_4
      refine lv_tableIn (off := 72) (tgt := 86) E.1 E.2.1 dX9_at_14 (by rw [h14_4]; decide) (by rw [h14_4]; decide) (by rw [h14_4]; rfl) (by decide) ?_
      refine w_aload_n E hl 1 dX9_at_86 rfl ?_
      refine w_rR E S hM lk_9_19 rfl dX9_at_87 (fun v87 hM => ?_)
      refine w_iload_n E hl 2 dX9_at_90 rfl ?_
      refine w_aI E S hM dX9_at_91 (fun v91 hM => ?_)
      exact w_iret E S hM hr hk dX9_at_92
    replace hM := x_okF hM h14_4
    by_cases h14_5 : x2 = 5
    · replace hM := x_okT hM h14_5
      refine lv_tableIn (off := 79) (tgt := 93) E.1 E.2.1 dX9_at_14 (by rw [h14_5]; decide) (by rw [h14_5]; decide) (by rw [h14_5]; rfl) (by decide) ?_
      refine lv_iconst (v := (0 : Int32)) E.1 E.2.1 dX9_at_93 (by decide) ?_
      refine w_istore (lt' := [(4, .inl (0 : Int32)), (3, .inl (0 : Int32)), (0, .inr (.inl r0)), (1, .inl x1), (2, .inl x2)]) E hl dX9_at_94 (by decide) rfl (fun ls hl => ?_)
      exact bX9_at_96 E hr hk hfr hlo F r0 x1 (0 : Int32) (0 : Int32) _ _ _ _ S hM (x_lv_sub hl [2, 3, 1, 0] rfl)
    replace hM := x_okF hM h14_5
    have n14_0 := lv_neT (a := 0) h14_0 (by decide)
    have n14_1 := lv_neT (a := 1) h14_1 (by decide)
    have n14_2 := lv_neT (a := 2) h14_2 (by decide)
    have n14_3 := lv_neT (a := 3) h14_3 (by decide)
    have n14_4 := lv_neT (a := 4) h14_4 (by decide)
    have n14_5 := lv_neT (a := 5) h14_5 (by decide)
    refine lv_tableOut (tgt := 142) E.1 E.2.1 dX9_at_14 (by omega) (by decide) ?_
    refine w_ldc (v := (-2147483648 : Int32)) E wd_886 dX9_at_142 ?_
    exact w_iret E S hM hr hk dX9_at_144
  · replace hM := x_okT hM c5
    refine w_ldc (v := (-2147483648 : Int32)) E wd_886 dX9_at_8 ?_
    exact w_iret E S hM hr hk dX9_at_10
theorem dX9_count_0 : decode cX9_count 0 = .ok (.iload_n 1, 1) := by decide +kernel
theorem dX9_count_1 : decode cX9_count 1 = .ok (.tableswitch 87 0 7 #[47, 52, 57, 62, 67, 72, 77, 82], 47) := by decide +kernel
theorem dX9_count_48 : decode cX9_count 48 = .ok (.aload_n 0, 1) := by decide +kernel
theorem dX9_count_49 : decode cX9_count 49 = .ok (.getfield 146, 3) := by decide +kernel
theorem dX9_count_52 : decode cX9_count 52 = .ok (.ireturn, 1) := by decide +kernel
theorem dX9_count_53 : decode cX9_count 53 = .ok (.aload_n 0, 1) := by decide +kernel
theorem dX9_count_54 : decode cX9_count 54 = .ok (.getfield 134, 3) := by decide +kernel
theorem dX9_count_57 : decode cX9_count 57 = .ok (.ireturn, 1) := by decide +kernel
theorem dX9_count_58 : decode cX9_count 58 = .ok (.aload_n 0, 1) := by decide +kernel
theorem dX9_count_59 : decode cX9_count 59 = .ok (.getfield 149, 3) := by decide +kernel
theorem dX9_count_62 : decode cX9_count 62 = .ok (.ireturn, 1) := by decide +kernel
theorem dX9_count_63 : decode cX9_count 63 = .ok (.aload_n 0, 1) := by decide +kernel
theorem dX9_count_64 : decode cX9_count 64 = .ok (.getfield 142, 3) := by decide +kernel
theorem dX9_count_67 : decode cX9_count 67 = .ok (.ireturn, 1) := by decide +kernel
theorem dX9_count_68 : decode cX9_count 68 = .ok (.aload_n 0, 1) := by decide +kernel
theorem dX9_count_69 : decode cX9_count 69 = .ok (.getfield 173, 3) := by decide +kernel
theorem dX9_count_72 : decode cX9_count 72 = .ok (.ireturn, 1) := by decide +kernel
theorem dX9_count_73 : decode cX9_count 73 = .ok (.aload_n 0, 1) := by decide +kernel
theorem dX9_count_74 : decode cX9_count 74 = .ok (.getfield 208, 3) := by decide +kernel
theorem dX9_count_77 : decode cX9_count 77 = .ok (.ireturn, 1) := by decide +kernel
theorem dX9_count_78 : decode cX9_count 78 = .ok (.aload_n 0, 1) := by decide +kernel
theorem dX9_count_79 : decode cX9_count 79 = .ok (.getfield 202, 3) := by decide +kernel
theorem dX9_count_82 : decode cX9_count 82 = .ok (.ireturn, 1) := by decide +kernel
theorem dX9_count_83 : decode cX9_count 83 = .ok (.aload_n 0, 1) := by decide +kernel
theorem dX9_count_84 : decode cX9_count 84 = .ok (.getfield 211, 3) := by decide +kernel
theorem dX9_count_87 : decode cX9_count 87 = .ok (.ireturn, 1) := by decide +kernel
theorem dX9_count_88 : decode cX9_count 88 = .ok (.iconst (-1), 1) := by decide +kernel
theorem dX9_count_89 : decode cX9_count 89 = .ok (.ireturn, 1) := by decide +kernel
theorem mcX9_count : x_mc yX9_count cX9_count 2 (some .int) 1 := ⟨wd_894, wd_4, by decide +kernel⟩
set_option maxHeartbeats 4000000 in
set_option maxRecDepth 100000 in
theorem kX9_count (l : Launch) (base : Nat) (D : va_G) (dA : Nat → ClassId) (F : Nat) (r0 : Option Nat) (x1 : Int32) : x_Met l base D dA yX9_count cX9_count 2 (some .int) 0 0 [va_rf r0, .int x1] (mX9_count F r0 x1) (fun x => some (.int x)) := by
  refine x_Met.of [(0, .inr (.inl r0)), (1, .inl x1)] (by decide) (Nat.le_of_ble_eq_true rfl) rfl rfl ?_
  intro p e R s m args below meth c σ a τ ls hfr hlo E hr hk hn S hM hl
  have E : x_E p s m args c cX9_count 2 "WireMoneyModel" D dA := E
  unfold mX9_count at hM
  refine w_iload_n E hl 1 dX9_count_0 rfl ?_
  by_cases h1_0 : x1 = 0
  · replace hM := x_okT hM h1_0
    refine lv_tableIn (off := 47) (tgt := 48) E.1 E.2.1 dX9_count_1 (by rw [h1_0]; decide) (by rw [h1_0]; decide) (by rw [h1_0]; rfl) (by decide) ?_
    refine w_aload_n E hl 0 dX9_count_48 rfl ?_
    refine w_rI E S hM lk_9_146 rfl dX9_count_49 (fun v49 hM => ?_)
    exact w_iret E S hM hr hk dX9_count_52
  replace hM := x_okF hM h1_0
  by_cases h1_1 : x1 = 1
  · replace hM := x_okT hM h1_1
    refine lv_tableIn (off := 52) (tgt := 53) E.1 E.2.1 dX9_count_1 (by rw [h1_1]; decide) (by rw [h1_1]; decide) (by rw [h1_1]; rfl) (by decide) ?_
    refine w_aload_n E hl 0 dX9_count_53 rfl ?_
    refine w_rI E S hM lk_9_134 rfl dX9_count_54 (fun v54 hM => ?_)
    exact w_iret E S hM hr hk dX9_count_57
  replace hM := x_okF hM h1_1
  by_cases h1_2 : x1 = 2
  · replace hM := x_okT hM h1_2
    refine lv_tableIn (off := 57) (tgt := 58) E.1 E.2.1 dX9_count_1 (by rw [h1_2]; decide) (by rw [h1_2]; decide) (by rw [h1_2]; rfl) (by decide) ?_
    refine w_aload_n E hl 0 dX9_count_58 rfl ?_
    refine w_rI E S hM lk_9_149 rfl dX9_count_59 (fun v59 hM => ?_)
    exact w_iret E S hM hr hk dX9_count_62
  replace hM := x_okF hM h1_2
  by_cases h1_3 : x1 = 3
  · replace hM := x_okT hM h1_3
    refine lv_tableIn (off := 62) (tgt := 63) E.1 E.2.1 dX9_count_1 (by rw [h1_3]; decide) (by rw [h1_3]; decide) (by rw [h1_3]; rfl) (by decide) ?_
    refine w_aload_n E hl 0 dX9_count_63 rfl ?_
    refine w_rI E S hM lk_9_142 rfl dX9_count_64 (fun v64 hM => ?_)
    exact w_iret E S hM hr hk dX9_count_67
  replace hM := x_okF hM h1_3
  by_cases h1_4 : x1 = 4
  · replace hM := x_okT hM h1_4
    refine lv_tableIn (off := 67) (tgt := 68) E.1 E.2.1 dX9_count_1 (by rw [h1_4]; decide) (by rw [h1_4]; decide) (by rw [h1_4]; rfl) (by decide) ?_
    refine w_aload_n E hl 0 dX9_count_68 rfl ?_
    refine w_rI E S hM lk_9_173 rfl dX9_count_69 (fun v69 hM => ?_)
    exact w_iret E S hM hr hk dX9_count_72
  replace hM := x_okF hM h1_4
  by_cases h1_5 : x1 = 5
  · replace hM := x_okT hM h1_5
    refine lv_tableIn (off := 72) (tgt := 73) E.1 E.2.1 dX9_count_1 (by rw [h1_5]; decide) (by rw [h1_5]; decide) (by rw [h1_5]; rfl) (by decide) ?_
    refine w_aload_n E hl 0 dX9_count_73 rfl ?_
    refine w_rI E S hM lk_9_208 rfl dX9_count_74 (fun v74 hM => ?_)
    exact w_iret E S hM hr hk dX9_count_77
  replace hM := x_okF hM h1_5
  by_cases h1_6 : x1 = 6
  · replace hM := x_okT hM h1_6
    refine lv_tableIn (off := 77) (tgt := 78) E.1 E.2.1 dX9_count_1 (by rw [h1_6]; decide) (by rw [h1_6]; decide) (by rw [h1_6]; rfl) (by decide) ?_
    refine w_aload_n E hl 0 dX9_count_78 rfl ?_
    refine w_rI E S hM lk_9_202 rfl dX9_count_79 (fun v79 hM => ?_)
    exact w_iret E S hM hr hk dX9_count_82
  replace hM := x_okF hM h1_6
  by_cases h1_7 : x1 = 7
  · replace hM := x_okT hM h1_7
    refine lv_tableIn (off := 82) (tgt := 83) E.1 E.2.1 dX9_count_1 (by rw [h1_7]; decide) (by rw [h1_7]; decide) (by rw [h1_7]; rfl) (by decide) ?_
    refine w_aload_n E hl 0 dX9_count_83 rfl ?_
    refine w_rI E S hM lk_9_211 rfl dX9_count_84 (fun v84 hM => ?_)
    exact w_iret E S hM hr hk dX9_count_87
  replace hM := x_okF hM h1_7
  have n1_0 := lv_neT (a := 0) h1_0 (by decide)
  have n1_1 := lv_neT (a := 1) h1_1 (by decide)
  have n1_2 := lv_neT (a := 2) h1_2 (by decide)
  have n1_3 := lv_neT (a := 3) h1_3 (by decide)
  have n1_4 := lv_neT (a := 4) h1_4 (by decide)
  have n1_5 := lv_neT (a := 5) h1_5 (by decide)
  have n1_6 := lv_neT (a := 6) h1_6 (by decide)
  have n1_7 := lv_neT (a := 7) h1_7 (by decide)
  refine lv_tableOut (tgt := 88) E.1 E.2.1 dX9_count_1 (by omega) (by decide) ?_
  refine lv_iconst (v := (-1 : Int32)) E.1 E.2.1 dX9_count_88 (by decide) ?_
  exact w_iret E S hM hr hk dX9_count_89
