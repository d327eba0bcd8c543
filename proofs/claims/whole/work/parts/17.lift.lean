theorem dX9_writes_0 : decode cX9_writes 0 = .ok (.aload_n 0, 1) := by decide +kernel
theorem dX9_writes_1 : decode cX9_writes 1 = .ok (.getfield 173, 3) := by decide +kernel
theorem dX9_writes_4 : decode cX9_writes 4 = .ok (.sipush 1000, 3) := by decide +kernel
theorem dX9_writes_7 : decode cX9_writes 7 = .ok (.if_icmp .ne 5, 3) := by decide +kernel
theorem dX9_writes_10 : decode cX9_writes 10 = .ok (.iconst (-1), 1) := by decide +kernel
theorem dX9_writes_11 : decode cX9_writes 11 = .ok (.ireturn, 1) := by decide +kernel
theorem dX9_writes_12 : decode cX9_writes 12 = .ok (.aload_n 0, 1) := by decide +kernel
theorem dX9_writes_13 : decode cX9_writes 13 = .ok (.getfield 173, 3) := by decide +kernel
theorem dX9_writes_16 : decode cX9_writes 16 = .ok (.istore 5, 2) := by decide +kernel
theorem dX9_writes_18 : decode cX9_writes 18 = .ok (.aload_n 0, 1) := by decide +kernel
theorem dX9_writes_19 : decode cX9_writes 19 = .ok (.getfield 86, 3) := by decide +kernel
theorem dX9_writes_22 : decode cX9_writes 22 = .ok (.iload 5, 2) := by decide +kernel
theorem dX9_writes_24 : decode cX9_writes 24 = .ok (.iload_n 1, 1) := by decide +kernel
theorem dX9_writes_25 : decode cX9_writes 25 = .ok (.iastore, 1) := by decide +kernel
theorem dX9_writes_26 : decode cX9_writes 26 = .ok (.aload_n 0, 1) := by decide +kernel
theorem dX9_writes_27 : decode cX9_writes 27 = .ok (.getfield 89, 3) := by decide +kernel
theorem dX9_writes_30 : decode cX9_writes 30 = .ok (.iload 5, 2) := by decide +kernel
theorem dX9_writes_32 : decode cX9_writes 32 = .ok (.iload_n 2, 1) := by decide +kernel
theorem dX9_writes_33 : decode cX9_writes 33 = .ok (.iastore, 1) := by decide +kernel
theorem dX9_writes_34 : decode cX9_writes 34 = .ok (.aload_n 0, 1) := by decide +kernel
theorem dX9_writes_35 : decode cX9_writes 35 = .ok (.getfield 92, 3) := by decide +kernel
theorem dX9_writes_38 : decode cX9_writes 38 = .ok (.iload 5, 2) := by decide +kernel
theorem dX9_writes_40 : decode cX9_writes 40 = .ok (.iload_n 3, 1) := by decide +kernel
theorem dX9_writes_41 : decode cX9_writes 41 = .ok (.iastore, 1) := by decide +kernel
theorem dX9_writes_42 : decode cX9_writes 42 = .ok (.aload_n 0, 1) := by decide +kernel
theorem dX9_writes_43 : decode cX9_writes 43 = .ok (.getfield 95, 3) := by decide +kernel
theorem dX9_writes_46 : decode cX9_writes 46 = .ok (.iload 5, 2) := by decide +kernel
theorem dX9_writes_48 : decode cX9_writes 48 = .ok (.iload 4, 2) := by decide +kernel
theorem dX9_writes_50 : decode cX9_writes 50 = .ok (.iastore, 1) := by decide +kernel
theorem dX9_writes_51 : decode cX9_writes 51 = .ok (.aload_n 0, 1) := by decide +kernel
theorem dX9_writes_52 : decode cX9_writes 52 = .ok (.getfield 113, 3) := by decide +kernel
theorem dX9_writes_55 : decode cX9_writes 55 = .ok (.iload 5, 2) := by decide +kernel
theorem dX9_writes_57 : decode cX9_writes 57 = .ok (.iconst (-1), 1) := by decide +kernel
theorem dX9_writes_58 : decode cX9_writes 58 = .ok (.iastore, 1) := by decide +kernel
theorem dX9_writes_59 : decode cX9_writes 59 = .ok (.aload_n 0, 1) := by decide +kernel
theorem dX9_writes_60 : decode cX9_writes 60 = .ok (.dup, 1) := by decide +kernel
theorem dX9_writes_61 : decode cX9_writes 61 = .ok (.getfield 173, 3) := by decide +kernel
theorem dX9_writes_64 : decode cX9_writes 64 = .ok (.iconst 1, 1) := by decide +kernel
theorem dX9_writes_65 : decode cX9_writes 65 = .ok (.iadd, 1) := by decide +kernel
theorem dX9_writes_66 : decode cX9_writes 66 = .ok (.putfield 173, 3) := by decide +kernel
theorem dX9_writes_69 : decode cX9_writes 69 = .ok (.iload_n 1, 1) := by decide +kernel
theorem dX9_writes_70 : decode cX9_writes 70 = .ok (.ifCond .ne 125, 3) := by decide +kernel
theorem dX9_writes_73 : decode cX9_writes 73 = .ok (.aload_n 0, 1) := by decide +kernel
theorem dX9_writes_74 : decode cX9_writes 74 = .ok (.getfield 125, 3) := by decide +kernel
theorem dX9_writes_77 : decode cX9_writes 77 = .ok (.iload 5, 2) := by decide +kernel
theorem dX9_writes_79 : decode cX9_writes 79 = .ok (.aload_n 0, 1) := by decide +kernel
theorem dX9_writes_80 : decode cX9_writes 80 = .ok (.getfield 146, 3) := by decide +kernel
theorem dX9_writes_83 : decode cX9_writes 83 = .ok (.sipush 1440, 3) := by decide +kernel
theorem dX9_writes_86 : decode cX9_writes 86 = .ok (.idiv, 1) := by decide +kernel
theorem dX9_writes_87 : decode cX9_writes 87 = .ok (.iastore, 1) := by decide +kernel
theorem dX9_writes_88 : decode cX9_writes 88 = .ok (.iconst 0, 1) := by decide +kernel
theorem dX9_writes_89 : decode cX9_writes 89 = .ok (.istore 6, 2) := by decide +kernel
theorem dX9_writes_91 : decode cX9_writes 91 = .ok (.iload 6, 2) := by decide +kernel
theorem dX9_writes_93 : decode cX9_writes 93 = .ok (.bipush 13, 2) := by decide +kernel
theorem dX9_writes_95 : decode cX9_writes 95 = .ok (.if_icmp .ge 77, 3) := by decide +kernel
theorem dX9_writes_98 : decode cX9_writes 98 = .ok (.aload_n 0, 1) := by decide +kernel
theorem dX9_writes_99 : decode cX9_writes 99 = .ok (.getfield 128, 3) := by decide +kernel
theorem dX9_writes_102 : decode cX9_writes 102 = .ok (.bipush 13, 2) := by decide +kernel
theorem dX9_writes_104 : decode cX9_writes 104 = .ok (.iload 5, 2) := by decide +kernel
theorem dX9_writes_106 : decode cX9_writes 106 = .ok (.imul, 1) := by decide +kernel
theorem dX9_writes_107 : decode cX9_writes 107 = .ok (.iload 6, 2) := by decide +kernel
theorem dX9_writes_109 : decode cX9_writes 109 = .ok (.iadd, 1) := by decide +kernel
theorem dX9_writes_110 : decode cX9_writes 110 = .ok (.iload 6, 2) := by decide +kernel
theorem dX9_writes_112 : decode cX9_writes 112 = .ok (.iconst 4, 1) := by decide +kernel
theorem dX9_writes_113 : decode cX9_writes 113 = .ok (.if_icmp .ge 14, 3) := by decide +kernel
theorem dX9_writes_116 : decode cX9_writes 116 = .ok (.iload_n 2, 1) := by decide +kernel
theorem dX9_writes_117 : decode cX9_writes 117 = .ok (.iconst 3, 1) := by decide +kernel
theorem dX9_writes_118 : decode cX9_writes 118 = .ok (.iload 6, 2) := by decide +kernel
theorem dX9_writes_120 : decode cX9_writes 120 = .ok (.isub, 1) := by decide +kernel
theorem dX9_writes_121 : decode cX9_writes 121 = .ok (.invokestatic 176, 3) := by decide +kernel
theorem dX9_writes_124 : decode cX9_writes 124 = .ok (.goto 41, 3) := by decide +kernel
theorem dX9_writes_127 : decode cX9_writes 127 = .ok (.iload 6, 2) := by decide +kernel
theorem dX9_writes_129 : decode cX9_writes 129 = .ok (.bipush 9, 2) := by decide +kernel
theorem dX9_writes_131 : decode cX9_writes 131 = .ok (.if_icmp .ge 20, 3) := by decide +kernel
theorem dX9_writes_134 : decode cX9_writes 134 = .ok (.aload_n 0, 1) := by decide +kernel
theorem dX9_writes_135 : decode cX9_writes 135 = .ok (.getfield 55, 3) := by decide +kernel
theorem dX9_writes_138 : decode cX9_writes 138 = .ok (.iload_n 2, 1) := by decide +kernel
theorem dX9_writes_139 : decode cX9_writes 139 = .ok (.iaload, 1) := by decide +kernel
theorem dX9_writes_140 : decode cX9_writes 140 = .ok (.bipush 8, 2) := by decide +kernel
theorem dX9_writes_142 : decode cX9_writes 142 = .ok (.iload 6, 2) := by decide +kernel
theorem dX9_writes_144 : decode cX9_writes 144 = .ok (.isub, 1) := by decide +kernel
theorem dX9_writes_145 : decode cX9_writes 145 = .ok (.invokestatic 176, 3) := by decide +kernel
theorem dX9_writes_148 : decode cX9_writes 148 = .ok (.goto 17, 3) := by decide +kernel
theorem dX9_writes_151 : decode cX9_writes 151 = .ok (.aload_n 0, 1) := by decide +kernel
theorem dX9_writes_152 : decode cX9_writes 152 = .ok (.getfield 58, 3) := by decide +kernel
theorem dX9_writes_155 : decode cX9_writes 155 = .ok (.iload_n 2, 1) := by decide +kernel
theorem dX9_writes_156 : decode cX9_writes 156 = .ok (.iaload, 1) := by decide +kernel
theorem dX9_writes_157 : decode cX9_writes 157 = .ok (.bipush 12, 2) := by decide +kernel
theorem dX9_writes_159 : decode cX9_writes 159 = .ok (.iload 6, 2) := by decide +kernel
theorem dX9_writes_161 : decode cX9_writes 161 = .ok (.isub, 1) := by decide +kernel
theorem dX9_writes_162 : decode cX9_writes 162 = .ok (.invokestatic 176, 3) := by decide +kernel
theorem dX9_writes_165 : decode cX9_writes 165 = .ok (.iastore, 1) := by decide +kernel
theorem dX9_writes_166 : decode cX9_writes 166 = .ok (.iinc 6 1, 3) := by decide +kernel
theorem dX9_writes_169 : decode cX9_writes 169 = .ok (.goto (-78), 3) := by decide +kernel
theorem dX9_writes_172 : decode cX9_writes 172 = .ok (.aload_n 0, 1) := by decide +kernel
theorem dX9_writes_173 : decode cX9_writes 173 = .ok (.getfield 122, 3) := by decide +kernel
theorem dX9_writes_176 : decode cX9_writes 176 = .ok (.iload 5, 2) := by decide +kernel
theorem dX9_writes_178 : decode cX9_writes 178 = .ok (.aload_n 0, 1) := by decide +kernel
theorem dX9_writes_179 : decode cX9_writes 179 = .ok (.iload 5, 2) := by decide +kernel
theorem dX9_writes_181 : decode cX9_writes 181 = .ok (.invokevirtual 179, 3) := by decide +kernel
theorem dX9_writes_184 : decode cX9_writes 184 = .ok (.iastore, 1) := by decide +kernel
theorem dX9_writes_185 : decode cX9_writes 185 = .ok (.aload_n 0, 1) := by decide +kernel
theorem dX9_writes_186 : decode cX9_writes 186 = .ok (.getfield 83, 3) := by decide +kernel
theorem dX9_writes_189 : decode cX9_writes 189 = .ok (.iload_n 2, 1) := by decide +kernel
theorem dX9_writes_190 : decode cX9_writes 190 = .ok (.dup2, 1) := by decide +kernel
theorem dX9_writes_191 : decode cX9_writes 191 = .ok (.iaload, 1) := by decide +kernel
theorem dX9_writes_192 : decode cX9_writes 192 = .ok (.iconst 1, 1) := by decide +kernel
theorem dX9_writes_193 : decode cX9_writes 193 = .ok (.iadd, 1) := by decide +kernel
theorem dX9_writes_194 : decode cX9_writes 194 = .ok (.iastore, 1) := by decide +kernel
theorem dX9_writes_195 : decode cX9_writes 195 = .ok (.aload_n 0, 1) := by decide +kernel
theorem dX9_writes_196 : decode cX9_writes 196 = .ok (.iload 5, 2) := by decide +kernel
theorem dX9_writes_198 : decode cX9_writes 198 = .ok (.iload_n 3, 1) := by decide +kernel
theorem dX9_writes_199 : decode cX9_writes 199 = .ok (.invokevirtual 183, 3) := by decide +kernel
theorem dX9_writes_202 : decode cX9_writes 202 = .ok (.iload 5, 2) := by decide +kernel
theorem dX9_writes_204 : decode cX9_writes 204 = .ok (.ireturn, 1) := by decide +kernel
set_option maxHeartbeats 4000000 in
set_option maxRecDepth 100000 in
theorem bX9_writes_91 {p : Program} {l : Launch} {e : Env} {R : Room} {s : State} {m : MethodId} {args : Array Value} {below : List Frame} {meth : Method} {c : Code} {base : Nat} {D : va_G} {dA : Nat → ClassId} {σ0 : PH} {z : Int32 × PH} {F : Nat} (E : x_E p s m args c cX9_writes 7 "WireMoneyModel" D dA) (hr : meth.sig.returnType = (some .int)) (hk : meth.locks = false) (hfr : R.frames = 3) (hlo : R.locals = 69) : ∀ (n : Nat) (y0 : Option Nat) (y2 : Int32) (y3 : Int32) (y5 : Int32) (y6 : Int32) (σ : PH) (H : Heap) (locs : List Loc) (ls : Array Slot), x_S base D dA R s σ0 z.2 σ H locs → x_rn (mX9_writes_91 F n y0 y2 y3 y5 y6) σ = some z → x_lv ls 7 [(0, .inr (.inl y0)), (2, .inl y2), (3, .inl y3), (5, .inl y5), (6, .inl y6)] → W p l e R s m args below meth c H locs (x_N σ - x_N σ0) (x_U σ - x_U σ0) (x_end below args s base D dA (fun x => some (.int x)) σ0 z) (F0 m 91 ls []) := by
  intro n
  induction n with
  | zero =>
    intro y0 y2 y3 y5 y6 σ H locs ls S hM hl
    cases hM
  | succ n ih =>
    intro y0 y2 y3 y5 y6 σ H locs ls S hM hl
    rw [mX9_writes_91] at hM
    refine w_iload E hl 4 dX9_writes_91 rfl ?_
    refine lv_bipush (v := (13 : Int32)) E.1 E.2.1 dX9_writes_93 (by decide) ?_
    refine lv_icmp_ge (tgt := 172) E.1 E.2.1 dX9_writes_95 (by decide) (fun c95 => ?_) (fun c95 => ?_)
    · replace hM := x_okT hM c95
      refine w_aload_n E hl 0 dX9_writes_172 rfl ?_
      refine w_rR E S hM lk_9_122 rfl dX9_writes_173 (fun v173 hM => ?_)
      refine w_iload E hl 3 dX9_writes_176 rfl ?_
      refine w_aload_n E hl 0 dX9_writes_178 rfl ?_
      refine w_iload E hl 3 dX9_writes_179 rfl ?_
      refine w_cVi (rest := [.int y5, va_rf v173]) E S hl hM (kX9_testOf l base D dA F y0 y5) mcX9_testOf ⟨by decide, rfl, wd_807, wd_809, wp_25⟩ hfr hlo (by decide) rfl (Nat.le_of_ble_eq_true rfl) dX9_writes_181 rfl (fun v181 σ H locs S hM => ?_)
      refine w_sI E S hM dX9_writes_184 (fun σ H locs S hM => ?_)
      refine w_aload_n E hl 0 dX9_writes_185 rfl ?_
      refine w_rR E S hM lk_9_83 rfl dX9_writes_186 (fun v186 hM => ?_)
      refine w_iload_n E hl 1 dX9_writes_189 rfl ?_
      refine lv_dup2_11 E.1 E.2.1 dX9_writes_190 rfl (x_cat _) ?_
      refine w_aI E S hM dX9_writes_191 (fun v191 hM => ?_)
      refine lv_iconst (v := (1 : Int32)) E.1 E.2.1 dX9_writes_192 (by decide) ?_
      refine lv_iadd E.1 E.2.1 dX9_writes_193 ?_
      refine w_sI E S hM dX9_writes_194 (fun σ H locs S hM => ?_)
      refine w_aload_n E hl 0 dX9_writes_195 rfl ?_
      refine w_iload E hl 3 dX9_writes_196 rfl ?_
      refine w_iload_n E hl 2 dX9_writes_198 rfl ?_
      refine w_cVv (rest := []) E S hl hM (kX9_queues l base D dA F y0 y5 y3) mcX9_queues ⟨by decide, rfl, wd_814, wd_816, wp_26⟩ hfr hlo (by decide) rfl (Nat.le_of_ble_eq_true rfl) dX9_writes_199 rfl (fun σ H locs S hM => ?_)
      refine w_iload E hl 3 dX9_writes_202 rfl ?_
      exact w_iret E S hM hr hk dX9_writes_204
    · replace hM := x_okF hM c95
      refine w_aload_n E hl 0 dX9_writes_98 rfl ?_
      refine w_rR E S hM lk_9_128 rfl dX9_writes_99 (fun v99 hM => ?_)
      refine lv_bipush (v := (13 : Int32)) E.1 E.2.1 dX9_writes_102 (by decide) ?_
      refine w_iload E hl 3 dX9_writes_104 rfl ?_
      refine lv_imul E.1 E.2.1 dX9_writes_106 ?_
      refine w_iload E hl 4 dX9_writes_107 rfl ?_
      refine lv_iadd E.1 E.2.1 dX9_writes_109 ?_
      refine w_iload E hl 4 dX9_writes_110 rfl ?_
      refine lv_iconst (v := (4 : Int32)) E.1 E.2.1 dX9_writes_112 (by decide) ?_
      refine lv_icmp_ge (tgt := 127) E.1 E.2.1 dX9_writes_113 (by decide) (fun c113 => ?_) (fun c113 => ?_)
      · replace hM := x_okT hM c113
        refine w_iload E hl 4 dX9_writes_127 rfl ?_
        refine lv_bipush (v := (9 : Int32)) E.1 E.2.1 dX9_writes_129 (by decide) ?_
        refine lv_icmp_ge (tgt := 151) E.1 E.2.1 dX9_writes_131 (by decide) (fun c131 => ?_) (fun c131 => ?_)
        · replace hM := x_okT hM c131
          refine w_aload_n E hl 0 dX9_writes_151 rfl ?_
          refine w_rR E S hM lk_9_58 rfl dX9_writes_152 (fun v152 hM => ?_)
          refine w_iload_n E hl 1 dX9_writes_155 rfl ?_
          refine w_aI E S hM dX9_writes_156 (fun v156 hM => ?_)
          refine lv_bipush (v := (12 : Int32)) E.1 E.2.1 dX9_writes_157 (by decide) ?_
          refine w_iload E hl 4 dX9_writes_159 rfl ?_
          refine lv_isub E.1 E.2.1 dX9_writes_161 ?_
          refine w_cSi (rest := [.int (((13 : Int32) * y5) + y6), va_rf v99]) E S hl hM (kX9_digit l base D dA F v156 ((12 : Int32) - y6)) mcX9_digit ⟨wd_804, wd_805⟩ hfr hlo (by decide) rfl (Nat.le_of_ble_eq_true rfl) dX9_writes_162 rfl (fun v162 σ H locs S hM => ?_)
          refine w_sI E S hM dX9_writes_165 (fun σ H locs S hM => ?_)
          refine w_iincN (ltf := fun v166 => [(6, .inl v166), (0, .inr (.inl y0)), (2, .inl y2), (3, .inl y3), (5, .inl y5)]) E hl 4 hM dX9_writes_166 rfl (by decide) (by decide) (fun _ => rfl) (fun v166 ls hM hl => ?_)
          refine lv_goto (tgt := 91) E.1 E.2.1 dX9_writes_169 (by decide) ?_
          exact ih y0 y2 y3 y5 v166 _ _ _ _ S hM (x_lv_sub hl [1, 2, 3, 4, 0] rfl)
        · replace hM := x_okF hM c131
          refine w_aload_n E hl 0 dX9_writes_134 rfl ?_
          refine w_rR E S hM lk_9_55 rfl dX9_writes_135 (fun v135 hM => ?_)
          refine w_iload_n E hl 1 dX9_writes_138 rfl ?_
          refine w_aI E S hM dX9_writes_139 (fun v139 hM => ?_)
          refine lv_bipush (v := (8 : Int32)) E.1 E.2.1 dX9_writes_140 (by decide) ?_
          refine w_iload E hl 4 dX9_writes_142 rfl ?_
          refine lv_isub E.1 E.2.1 dX9_writes_144 ?_
          refine w_cSi (rest := [.int (((13 : Int32) * y5) + y6), va_rf v99]) E S hl hM (kX9_digit l base D dA F v139 ((8 : Int32) - y6)) mcX9_digit ⟨wd_804, wd_805⟩ hfr hlo (by decide) rfl (Nat.le_of_ble_eq_true rfl) dX9_writes_145 rfl (fun v145 σ H locs S hM => ?_)
          refine lv_goto (tgt := 165) E.1 E.2.1 dX9_writes_148 (by decide) ?_
          refine w_sI E S hM dX9_writes_165 (fun σ H locs S hM => ?_)
          refine w_iincN (ltf := fun v166 => [(6, .inl v166), (0, .inr (.inl y0)), (2, .inl y2), (3, .inl y3), (5, .inl y5)]) E hl 4 hM dX9_writes_166 rfl (by decide) (by decide) (fun _ => rfl) (fun v166 ls hM hl => ?_)
          refine lv_goto (tgt := 91) E.1 E.2.1 dX9_writes_169 (by decide) ?_
          exact ih y0 y2 y3 y5 v166 _ _ _ _ S hM (x_lv_sub hl [1, 2, 3, 4, 0] rfl)
      · replace hM := x_okF hM c113
        refine w_iload_n E hl 1 dX9_writes_116 rfl ?_
        refine lv_iconst (v := (3 : Int32)) E.1 E.2.1 dX9_writes_117 (by decide) ?_
        refine w_iload E hl 4 dX9_writes_118 rfl ?_
        refine lv_isub E.1 E.2.1 dX9_writes_120 ?_
        refine w_cSi (rest := [.int (((13 : Int32) * y5) + y6), va_rf v99]) E S hl hM (kX9_digit l base D dA F y2 ((3 : Int32) - y6)) mcX9_digit ⟨wd_804, wd_805⟩ hfr hlo (by decide) rfl (Nat.le_of_ble_eq_true rfl) dX9_writes_121 rfl (fun v121 σ H locs S hM => ?_)
        refine lv_goto (tgt := 165) E.1 E.2.1 dX9_writes_124 (by decide) ?_
        refine w_sI E S hM dX9_writes_165 (fun σ H locs S hM => ?_)
        refine w_iincN (ltf := fun v166 => [(6, .inl v166), (0, .inr (.inl y0)), (2, .inl y2), (3, .inl y3), (5, .inl y5)]) E hl 4 hM dX9_writes_166 rfl (by decide) (by decide) (fun _ => rfl) (fun v166 ls hM hl => ?_)
        refine lv_goto (tgt := 91) E.1 E.2.1 dX9_writes_169 (by decide) ?_
        exact ih y0 y2 y3 y5 v166 _ _ _ _ S hM (x_lv_sub hl [1, 2, 3, 4, 0] rfl)
theorem mcX9_writes : x_mc yX9_writes cX9_writes 7 (some .int) 4 := ⟨wd_803, wd_4, by decide +kernel⟩
set_option maxHeartbeats 4000000 in
set_option maxRecDepth 100000 in
theorem kX9_writes (l : Launch) (base : Nat) (D : va_G) (dA : Nat → ClassId) (F : Nat) (r0 : Option Nat) (x1 : Int32) (x2 : Int32) (x3 : Int32) (x4 : Int32) : x_Met l base D dA yX9_writes cX9_writes 7 (some .int) 3 69 [va_rf r0, .int x1, .int x2, .int x3, .int x4] (mX9_writes F r0 x1 x2 x3 x4) (fun x => some (.int x)) := by
  refine x_Met.of [(0, .inr (.inl r0)), (1, .inl x1), (2, .inl x2), (3, .inl x3), (4, .inl x4)] (by decide) (Nat.le_of_ble_eq_true rfl) rfl rfl ?_
  intro p e R s m args below meth c σ a τ ls hfr hlo E hr hk hn S hM hl
  have E : x_E p s m args c cX9_writes 7 "WireMoneyModel" D dA := E
  unfold mX9_writes at hM
  refine w_aload_n E hl 0 dX9_writes_0 rfl ?_
  refine w_rI E S hM lk_9_173 rfl dX9_writes_1 (fun v1 hM => ?_)
  refine lv_sipush (v := (1000 : Int32)) E.1 E.2.1 dX9_writes_4 (by decide) ?_
  refine lv_icmp_ne (tgt := 12) E.1 E.2.1 dX9_writes_7 (by decide) (fun c7 => ?_) (fun c7 => ?_)
  · replace hM := x_okF hM c7
    refine w_aload_n E hl 0 dX9_writes_12 rfl ?_
    refine w_rI E S hM lk_9_173 rfl dX9_writes_13 (fun v13 hM => ?_)
    refine w_istore (lt' := [(5, .inl v13), (0, .inr (.inl r0)), (1, .inl x1), (2, .inl x2), (3, .inl x3), (4, .inl x4)]) E hl dX9_writes_16 (by decide) rfl (fun ls hl => ?_)
    refine w_aload_n E hl 1 dX9_writes_18 rfl ?_
    refine w_rR E S hM lk_9_86 rfl dX9_writes_19 (fun v19 hM => ?_)
    refine w_iload E hl 0 dX9_writes_22 rfl ?_
    refine w_iload_n E hl 2 dX9_writes_24 rfl ?_
    refine w_sI E S hM dX9_writes_25 (fun σ H locs S hM => ?_)
    refine w_aload_n E hl 1 dX9_writes_26 rfl ?_
    refine w_rR E S hM lk_9_89 rfl dX9_writes_27 (fun v27 hM => ?_)
    refine w_iload E hl 0 dX9_writes_30 rfl ?_
    refine w_iload_n E hl 3 dX9_writes_32 rfl ?_
    refine w_sI E S hM dX9_writes_33 (fun σ H locs S hM => ?_)
    refine w_aload_n E hl 1 dX9_writes_34 rfl ?_
    refine w_rR E S hM lk_9_92 rfl dX9_writes_35 (fun v35 hM => ?_)
    refine w_iload E hl 0 dX9_writes_38 rfl ?_
    refine w_iload_n E hl 4 dX9_writes_40 rfl ?_
    refine w_sI E S hM dX9_writes_41 (fun σ H locs S hM => ?_)
    refine w_aload_n E hl 1 dX9_writes_42 rfl ?_
    refine w_rR E S hM lk_9_95 rfl dX9_writes_43 (fun v43 hM => ?_)
    refine w_iload E hl 0 dX9_writes_46 rfl ?_
    refine w_iload E hl 5 dX9_writes_48 rfl ?_
    refine w_sI E S hM dX9_writes_50 (fun σ H locs S hM => ?_)
    refine w_aload_n E hl 1 dX9_writes_51 rfl ?_
    refine w_rR E S hM lk_9_113 rfl dX9_writes_52 (fun v52 hM => ?_)
    refine w_iload E hl 0 dX9_writes_55 rfl ?_
    refine lv_iconst (v := (-1 : Int32)) E.1 E.2.1 dX9_writes_57 (by decide) ?_
    refine w_sI E S hM dX9_writes_58 (fun σ H locs S hM => ?_)
    refine w_aload_n E hl 1 dX9_writes_59 rfl ?_
    refine lv_dup E.1 E.2.1 dX9_writes_60 (x_cat _) ?_
    refine w_rI E S hM lk_9_173 rfl dX9_writes_61 (fun v61 hM => ?_)
    refine lv_iconst (v := (1 : Int32)) E.1 E.2.1 dX9_writes_64 (by decide) ?_
    refine lv_iadd E.1 E.2.1 dX9_writes_65 ?_
    refine w_wI E S hM lk_9_173 rfl (Or.inl rfl) dX9_writes_66 (fun σ H locs S hM => ?_)
    refine w_iload_n E hl 2 dX9_writes_69 rfl ?_
    refine lv_if_ne (tgt := 195) E.1 E.2.1 dX9_writes_70 (by decide) (fun c70 => ?_) (fun c70 => ?_)
    · replace hM := x_okF hM c70
      refine w_aload_n E hl 1 dX9_writes_195 rfl ?_
      refine w_iload E hl 0 dX9_writes_196 rfl ?_
      refine w_iload_n E hl 4 dX9_writes_198 rfl ?_
      refine w_cVv (rest := []) E S hl hM (kX9_queues l base D dA F r0 v13 x3) mcX9_queues ⟨by decide, rfl, wd_814, wd_816, wp_26⟩ hfr hlo (by decide) rfl (Nat.le_of_ble_eq_true rfl) dX9_writes_199 rfl (fun σ H locs S hM => ?_)
      refine w_iload E hl 0 dX9_writes_202 rfl ?_
      exact w_iret E S hM hr hk dX9_writes_204
    · replace hM := x_okT hM c70
      refine w_aload_n E hl 1 dX9_writes_73 rfl ?_
      refine w_rR E S hM lk_9_125 rfl dX9_writes_74 (fun v74 hM => ?_)
      refine w_iload E hl 0 dX9_writes_77 rfl ?_
      refine w_aload_n E hl 1 dX9_writes_79 rfl ?_
      refine w_rI E S hM lk_9_146 rfl dX9_writes_80 (fun v80 hM => ?_)
      refine lv_sipush (v := (1440 : Int32)) E.1 E.2.1 dX9_writes_83 (by decide) ?_
      refine lv_idiv E.1 E.2.1 dX9_writes_86 (by decide) ?_
      refine w_sI E S hM dX9_writes_87 (fun σ H locs S hM => ?_)
      refine lv_iconst (v := (0 : Int32)) E.1 E.2.1 dX9_writes_88 (by decide) ?_
      refine w_istore (lt' := [(6, .inl (0 : Int32)), (5, .inl v13), (0, .inr (.inl r0)), (1, .inl x1), (2, .inl x2), (3, .inl x3), (4, .inl x4)]) E hl dX9_writes_89 (by decide) rfl (fun ls hl => ?_)
      exact bX9_writes_91 E hr hk hfr hlo F r0 x2 x3 v13 (0 : Int32) _ _ _ _ S hM (x_lv_sub hl [2, 4, 5, 1, 0] rfl)
  · replace hM := x_okT hM c7
    refine lv_iconst (v := (-1 : Int32)) E.1 E.2.1 dX9_writes_10 (by decide) ?_
    exact w_iret E S hM hr hk dX9_writes_11
theorem dX9_order_0 : decode cX9_order 0 = .ok (.aload_n 0, 1) := by decide +kernel
theorem dX9_order_1 : decode cX9_order 1 = .ok (.iload_n 1, 1) := by decide +kernel
theorem dX9_order_2 : decode cX9_order 2 = .ok (.invokevirtual 152, 3) := by decide +kernel
theorem dX9_order_5 : decode cX9_order 5 = .ok (.ifCond .eq 48, 3) := by decide +kernel
theorem dX9_order_8 : decode cX9_order 8 = .ok (.aload_n 0, 1) := by decide +kernel
theorem dX9_order_9 : decode cX9_order 9 = .ok (.iload_n 2, 1) := by decide +kernel
theorem dX9_order_10 : decode cX9_order 10 = .ok (.invokevirtual 152, 3) := by decide +kernel
theorem dX9_order_13 : decode cX9_order 13 = .ok (.ifCond .eq 40, 3) := by decide +kernel
theorem dX9_order_16 : decode cX9_order 16 = .ok (.iload_n 1, 1) := by decide +kernel
theorem dX9_order_17 : decode cX9_order 17 = .ok (.iload_n 2, 1) := by decide +kernel
theorem dX9_order_18 : decode cX9_order 18 = .ok (.if_icmp .eq 35, 3) := by decide +kernel
theorem dX9_order_21 : decode cX9_order 21 = .ok (.aload_n 0, 1) := by decide +kernel
theorem dX9_order_22 : decode cX9_order 22 = .ok (.iload_n 1, 1) := by decide +kernel
theorem dX9_order_23 : decode cX9_order 23 = .ok (.iload_n 2, 1) := by decide +kernel
theorem dX9_order_24 : decode cX9_order 24 = .ok (.invokevirtual 187, 3) := by decide +kernel
theorem dX9_order_27 : decode cX9_order 27 = .ok (.iconst (-1), 1) := by decide +kernel
theorem dX9_order_28 : decode cX9_order 28 = .ok (.if_icmp .eq 25, 3) := by decide +kernel
theorem dX9_order_31 : decode cX9_order 31 = .ok (.iload_n 3, 1) := by decide +kernel
theorem dX9_order_32 : decode cX9_order 32 = .ok (.iconst 1, 1) := by decide +kernel
theorem dX9_order_33 : decode cX9_order 33 = .ok (.ldc 160, 2) := by decide +kernel
theorem dX9_order_35 : decode cX9_order 35 = .ok (.invokestatic 138, 3) := by decide +kernel
theorem dX9_order_38 : decode cX9_order 38 = .ok (.ifCond .eq 15, 3) := by decide +kernel
theorem dX9_order_41 : decode cX9_order 41 = .ok (.iload 4, 2) := by decide +kernel
theorem dX9_order_43 : decode cX9_order 43 = .ok (.iconst 0, 1) := by decide +kernel
theorem dX9_order_44 : decode cX9_order 44 = .ok (.sipush 9999, 3) := by decide +kernel
theorem dX9_order_47 : decode cX9_order 47 = .ok (.invokestatic 138, 3) := by decide +kernel
theorem dX9_order_50 : decode cX9_order 50 = .ok (.ifCond .ne 5, 3) := by decide +kernel
theorem dX9_order_53 : decode cX9_order 53 = .ok (.iconst (-1), 1) := by decide +kernel
theorem dX9_order_54 : decode cX9_order 54 = .ok (.ireturn, 1) := by decide +kernel
theorem dX9_order_55 : decode cX9_order 55 = .ok (.aload_n 0, 1) := by decide +kernel
theorem dX9_order_56 : decode cX9_order 56 = .ok (.iload_n 1, 1) := by decide +kernel
theorem dX9_order_57 : decode cX9_order 57 = .ok (.invokevirtual 189, 3) := by decide +kernel
theorem dX9_order_60 : decode cX9_order 60 = .ok (.ifCond .eq 23, 3) := by decide +kernel
theorem dX9_order_63 : decode cX9_order 63 = .ok (.aload_n 0, 1) := by decide +kernel
theorem dX9_order_64 : decode cX9_order 64 = .ok (.getfield 142, 3) := by decide +kernel
theorem dX9_order_67 : decode cX9_order 67 = .ok (.sipush 200, 3) := by decide +kernel
theorem dX9_order_70 : decode cX9_order 70 = .ok (.if_icmp .eq 13, 3) := by decide +kernel
theorem dX9_order_73 : decode cX9_order 73 = .ok (.aload_n 0, 1) := by decide +kernel
theorem dX9_order_74 : decode cX9_order 74 = .ok (.getfield 173, 3) := by decide +kernel
theorem dX9_order_77 : decode cX9_order 77 = .ok (.sipush 1000, 3) := by decide +kernel
theorem dX9_order_80 : decode cX9_order 80 = .ok (.if_icmp .ne 5, 3) := by decide +kernel
theorem dX9_order_83 : decode cX9_order 83 = .ok (.iconst (-1), 1) := by decide +kernel
theorem dX9_order_84 : decode cX9_order 84 = .ok (.ireturn, 1) := by decide +kernel
theorem dX9_order_85 : decode cX9_order 85 = .ok (.aload_n 0, 1) := by decide +kernel
theorem dX9_order_86 : decode cX9_order 86 = .ok (.getfield 142, 3) := by decide +kernel
theorem dX9_order_89 : decode cX9_order 89 = .ok (.istore 5, 2) := by decide +kernel
theorem dX9_order_91 : decode cX9_order 91 = .ok (.aload_n 0, 1) := by decide +kernel
theorem dX9_order_92 : decode cX9_order 92 = .ok (.getfield 49, 3) := by decide +kernel
theorem dX9_order_95 : decode cX9_order 95 = .ok (.iload 5, 2) := by decide +kernel
theorem dX9_order_97 : decode cX9_order 97 = .ok (.iload_n 1, 1) := by decide +kernel
theorem dX9_order_98 : decode cX9_order 98 = .ok (.iastore, 1) := by decide +kernel
theorem dX9_order_99 : decode cX9_order 99 = .ok (.aload_n 0, 1) := by decide +kernel
theorem dX9_order_100 : decode cX9_order 100 = .ok (.getfield 52, 3) := by decide +kernel
theorem dX9_order_103 : decode cX9_order 103 = .ok (.iload 5, 2) := by decide +kernel
theorem dX9_order_105 : decode cX9_order 105 = .ok (.iload_n 2, 1) := by decide +kernel
theorem dX9_order_106 : decode cX9_order 106 = .ok (.iastore, 1) := by decide +kernel
theorem dX9_order_107 : decode cX9_order 107 = .ok (.aload_n 0, 1) := by decide +kernel
theorem dX9_order_108 : decode cX9_order 108 = .ok (.getfield 55, 3) := by decide +kernel
theorem dX9_order_111 : decode cX9_order 111 = .ok (.iload 5, 2) := by decide +kernel
theorem dX9_order_113 : decode cX9_order 113 = .ok (.iload_n 3, 1) := by decide +kernel
theorem dX9_order_114 : decode cX9_order 114 = .ok (.iastore, 1) := by decide +kernel
theorem dX9_order_115 : decode cX9_order 115 = .ok (.aload_n 0, 1) := by decide +kernel
theorem dX9_order_116 : decode cX9_order 116 = .ok (.getfield 58, 3) := by decide +kernel
theorem dX9_order_119 : decode cX9_order 119 = .ok (.iload 5, 2) := by decide +kernel
theorem dX9_order_121 : decode cX9_order 121 = .ok (.iload 4, 2) := by decide +kernel
theorem dX9_order_123 : decode cX9_order 123 = .ok (.iastore, 1) := by decide +kernel
theorem dX9_order_124 : decode cX9_order 124 = .ok (.aload_n 0, 1) := by decide +kernel
theorem dX9_order_125 : decode cX9_order 125 = .ok (.getfield 61, 3) := by decide +kernel
theorem dX9_order_128 : decode cX9_order 128 = .ok (.iload 5, 2) := by decide +kernel
theorem dX9_order_130 : decode cX9_order 130 = .ok (.aload_n 0, 1) := by decide +kernel
theorem dX9_order_131 : decode cX9_order 131 = .ok (.iload_n 3, 1) := by decide +kernel
theorem dX9_order_132 : decode cX9_order 132 = .ok (.invokevirtual 192, 3) := by decide +kernel
theorem dX9_order_135 : decode cX9_order 135 = .ok (.iastore, 1) := by decide +kernel
theorem dX9_order_136 : decode cX9_order 136 = .ok (.aload_n 0, 1) := by decide +kernel
theorem dX9_order_137 : decode cX9_order 137 = .ok (.getfield 80, 3) := by decide +kernel
theorem dX9_order_140 : decode cX9_order 140 = .ok (.iload 5, 2) := by decide +kernel
theorem dX9_order_142 : decode cX9_order 142 = .ok (.iconst (-1), 1) := by decide +kernel
theorem dX9_order_143 : decode cX9_order 143 = .ok (.iastore, 1) := by decide +kernel
theorem dX9_order_144 : decode cX9_order 144 = .ok (.aload_n 0, 1) := by decide +kernel
theorem dX9_order_145 : decode cX9_order 145 = .ok (.dup, 1) := by decide +kernel
theorem dX9_order_146 : decode cX9_order 146 = .ok (.getfield 142, 3) := by decide +kernel
theorem dX9_order_149 : decode cX9_order 149 = .ok (.iconst 1, 1) := by decide +kernel
theorem dX9_order_150 : decode cX9_order 150 = .ok (.iadd, 1) := by decide +kernel
theorem dX9_order_151 : decode cX9_order 151 = .ok (.putfield 142, 3) := by decide +kernel
theorem dX9_order_154 : decode cX9_order 154 = .ok (.aload_n 0, 1) := by decide +kernel
theorem dX9_order_155 : decode cX9_order 155 = .ok (.getfield 9, 3) := by decide +kernel
theorem dX9_order_158 : decode cX9_order 158 = .ok (.iload_n 1, 1) := by decide +kernel
theorem dX9_order_159 : decode cX9_order 159 = .ok (.dup2, 1) := by decide +kernel
theorem dX9_order_160 : decode cX9_order 160 = .ok (.iaload, 1) := by decide +kernel
theorem dX9_order_161 : decode cX9_order 161 = .ok (.iload_n 3, 1) := by decide +kernel
theorem dX9_order_162 : decode cX9_order 162 = .ok (.aload_n 0, 1) := by decide +kernel
theorem dX9_order_163 : decode cX9_order 163 = .ok (.getfield 61, 3) := by decide +kernel
theorem dX9_order_166 : decode cX9_order 166 = .ok (.iload 5, 2) := by decide +kernel
theorem dX9_order_168 : decode cX9_order 168 = .ok (.iaload, 1) := by decide +kernel
theorem dX9_order_169 : decode cX9_order 169 = .ok (.iadd, 1) := by decide +kernel
theorem dX9_order_170 : decode cX9_order 170 = .ok (.iadd, 1) := by decide +kernel
theorem dX9_order_171 : decode cX9_order 171 = .ok (.iastore, 1) := by decide +kernel
theorem dX9_order_172 : decode cX9_order 172 = .ok (.aload_n 0, 1) := by decide +kernel
theorem dX9_order_173 : decode cX9_order 173 = .ok (.getfield 19, 3) := by decide +kernel
theorem dX9_order_176 : decode cX9_order 176 = .ok (.iload_n 1, 1) := by decide +kernel
theorem dX9_order_177 : decode cX9_order 177 = .ok (.dup2, 1) := by decide +kernel
theorem dX9_order_178 : decode cX9_order 178 = .ok (.iaload, 1) := by decide +kernel
theorem dX9_order_179 : decode cX9_order 179 = .ok (.aload_n 0, 1) := by decide +kernel
theorem dX9_order_180 : decode cX9_order 180 = .ok (.getfield 61, 3) := by decide +kernel
theorem dX9_order_183 : decode cX9_order 183 = .ok (.iload 5, 2) := by decide +kernel
theorem dX9_order_185 : decode cX9_order 185 = .ok (.iaload, 1) := by decide +kernel
theorem dX9_order_186 : decode cX9_order 186 = .ok (.iadd, 1) := by decide +kernel
theorem dX9_order_187 : decode cX9_order 187 = .ok (.iastore, 1) := by decide +kernel
theorem dX9_order_188 : decode cX9_order 188 = .ok (.aload_n 0, 1) := by decide +kernel
theorem dX9_order_189 : decode cX9_order 189 = .ok (.iconst 0, 1) := by decide +kernel
theorem dX9_order_190 : decode cX9_order 190 = .ok (.iload 5, 2) := by decide +kernel
theorem dX9_order_192 : decode cX9_order 192 = .ok (.iload_n 1, 1) := by decide +kernel
theorem dX9_order_193 : decode cX9_order 193 = .ok (.iload_n 2, 1) := by decide +kernel
theorem dX9_order_194 : decode cX9_order 194 = .ok (.invokevirtual 195, 3) := by decide +kernel
theorem dX9_order_197 : decode cX9_order 197 = .ok (.pop, 1) := by decide +kernel
theorem dX9_order_198 : decode cX9_order 198 = .ok (.iload 5, 2) := by decide +kernel
theorem dX9_order_200 : decode cX9_order 200 = .ok (.ireturn, 1) := by decide +kernel
theorem mcX9_order : x_mc yX9_order cX9_order 6 (some .int) 4 := ⟨wd_793, wd_4, by decide +kernel⟩
set_option maxHeartbeats 4000000 in
set_option maxRecDepth 100000 in
theorem kX9_order (l : Launch) (base : Nat) (D : va_G) (dA : Nat → ClassId) (F : Nat) (r0 : Option Nat) (x1 : Int32) (x2 : Int32) (x3 : Int32) (x4 : Int32) : x_Met l base D dA yX9_order cX9_order 6 (some .int) 4 95 [va_rf r0, .int x1, .int x2, .int x3, .int x4] (mX9_order F r0 x1 x2 x3 x4) (fun x => some (.int x)) := by
  refine x_Met.of [(0, .inr (.inl r0)), (1, .inl x1), (2, .inl x2), (3, .inl x3), (4, .inl x4)] (by decide) (Nat.le_of_ble_eq_true rfl) rfl rfl ?_
  intro p e R s m args below meth c σ a τ ls hfr hlo E hr hk hn S hM hl
  have E : x_E p s m args c cX9_order 6 "WireMoneyModel" D dA := E
  unfold mX9_order at hM
  refine w_aload_n E hl 0 dX9_order_0 rfl ?_
  refine w_iload_n E hl 1 dX9_order_1 rfl ?_
  refine w_cVi (rest := []) E S hl hM (kX9_isCounter l base D dA F r0 x1) mcX9_isCounter ⟨by decide, rfl, wd_769, wd_771, wp_22⟩ hfr hlo (by decide) rfl (Nat.le_of_ble_eq_true rfl) dX9_order_2 rfl (fun v2 σ H locs S hM => ?_)
  refine lv_if_eq (tgt := 53) E.1 E.2.1 dX9_order_5 (by decide) (fun c5 => ?_) (fun c5 => ?_)
  · replace hM := x_okT hM c5
    refine lv_iconst (v := (-1 : Int32)) E.1 E.2.1 dX9_order_53 (by decide) ?_
    exact w_iret E S hM hr hk dX9_order_54
  · replace hM := x_okF hM c5
    refine w_aload_n E hl 0 dX9_order_8 rfl ?_
    refine w_iload_n E hl 2 dX9_order_9 rfl ?_
    refine w_cVi (rest := []) E S hl hM (kX9_isCounter l base D dA F r0 x2) mcX9_isCounter ⟨by decide, rfl, wd_769, wd_771, wp_22⟩ hfr hlo (by decide) rfl (Nat.le_of_ble_eq_true rfl) dX9_order_10 rfl (fun v10 σ H locs S hM => ?_)
    refine lv_if_eq (tgt := 53) E.1 E.2.1 dX9_order_13 (by decide) (fun c13 => ?_) (fun c13 => ?_)
    · replace hM := x_okT hM c13
      refine lv_iconst (v := (-1 : Int32)) E.1 E.2.1 dX9_order_53 (by decide) ?_
      exact w_iret E S hM hr hk dX9_order_54
    · replace hM := x_okF hM c13
      refine w_iload_n E hl 1 dX9_order_16 rfl ?_
      refine w_iload_n E hl 2 dX9_order_17 rfl ?_
      refine lv_icmp_eq (tgt := 53) E.1 E.2.1 dX9_order_18 (by decide) (fun c18 => ?_) (fun c18 => ?_)
      · replace hM := x_okT hM c18
        refine lv_iconst (v := (-1 : Int32)) E.1 E.2.1 dX9_order_53 (by decide) ?_
        exact w_iret E S hM hr hk dX9_order_54
      · replace hM := x_okF hM c18
        refine w_aload_n E hl 0 dX9_order_21 rfl ?_
        refine w_iload_n E hl 1 dX9_order_22 rfl ?_
        refine w_iload_n E hl 2 dX9_order_23 rfl ?_
        refine w_cVi (rest := []) E S hl hM (kX9_least l base D dA F r0 x1 x2) mcX9_least ⟨by decide, rfl, wd_794, wd_778, wd_779⟩ hfr hlo (by decide) rfl (Nat.le_of_ble_eq_true rfl) dX9_order_24 rfl (fun v24 σ H locs S hM => ?_)
        refine lv_iconst (v := (-1 : Int32)) E.1 E.2.1 dX9_order_27 (by decide) ?_
        refine lv_icmp_eq (tgt := 53) E.1 E.2.1 dX9_order_28 (by decide) (fun c28 => ?_) (fun c28 => ?_)
        · replace hM := x_okT hM c28
          refine lv_iconst (v := (-1 : Int32)) E.1 E.2.1 dX9_order_53 (by decide) ?_
          exact w_iret E S hM hr hk dX9_order_54
        · replace hM := x_okF hM c28
          refine w_iload_n E hl 3 dX9_order_31 rfl ?_
          refine lv_iconst (v := (1 : Int32)) E.1 E.2.1 dX9_order_32 (by decide) ?_
          refine w_ldc (v := (99999 : Int32)) E wd_785 dX9_order_33 ?_
          refine w_cSi (rest := []) E S hl hM (kX9_in l base D dA F x3 (1 : Int32) (99999 : Int32)) mcX9_in ⟨wd_762, wd_763⟩ hfr hlo (by decide) rfl (Nat.le_of_ble_eq_true rfl) dX9_order_35 rfl (fun v35 σ H locs S hM => ?_)
          refine lv_if_eq (tgt := 53) E.1 E.2.1 dX9_order_38 (by decide) (fun c38 => ?_) (fun c38 => ?_)
          · replace hM := x_okT hM c38
            refine lv_iconst (v := (-1 : Int32)) E.1 E.2.1 dX9_order_53 (by decide) ?_
            exact w_iret E S hM hr hk dX9_order_54
          · replace hM := x_okF hM c38
            refine w_iload E hl 4 dX9_order_41 rfl ?_
            refine lv_iconst (v := (0 : Int32)) E.1 E.2.1 dX9_order_43 (by decide) ?_
            refine lv_sipush (v := (9999 : Int32)) E.1 E.2.1 dX9_order_44 (by decide) ?_
            refine w_cSi (rest := []) E S hl hM (kX9_in l base D dA F x4 (0 : Int32) (9999 : Int32)) mcX9_in ⟨wd_762, wd_763⟩ hfr hlo (by decide) rfl (Nat.le_of_ble_eq_true rfl) dX9_order_47 rfl (fun v47 σ H locs S hM => ?_)
            refine lv_if_ne (tgt := 55) E.1 E.2.1 dX9_order_50 (by decide) (fun c50 => ?_) (fun c50 => ?_)
            · replace hM := x_okF hM c50
              refine w_aload_n E hl 0 dX9_order_55 rfl ?_
              refine w_iload_n E hl 1 dX9_order_56 rfl ?_
              refine w_cVi (rest := []) E S hl hM (kX9_isOpen l base D dA F r0 x1) mcX9_isOpen ⟨by decide, rfl, wd_795, wd_797, wp_23⟩ hfr hlo (by decide) rfl (Nat.le_of_ble_eq_true rfl) dX9_order_57 rfl (fun v57 σ H locs S hM => ?_)
              refine lv_if_eq (tgt := 83) E.1 E.2.1 dX9_order_60 (by decide) (fun c60 => ?_) (fun c60 => ?_)
              · replace hM := x_okT hM c60
                refine lv_iconst (v := (-1 : Int32)) E.1 E.2.1 dX9_order_83 (by decide) ?_
                exact w_iret E S hM hr hk dX9_order_84
              · replace hM := x_okF hM c60
                refine w_aload_n E hl 0 dX9_order_63 rfl ?_
                refine w_rI E S hM lk_9_142 rfl dX9_order_64 (fun v64 hM => ?_)
                refine lv_sipush (v := (200 : Int32)) E.1 E.2.1 dX9_order_67 (by decide) ?_
                refine lv_icmp_eq (tgt := 83) E.1 E.2.1 dX9_order_70 (by decide) (fun c70 => ?_) (fun c70 => ?_)
                · replace hM := x_okT hM c70
                  refine lv_iconst (v := (-1 : Int32)) E.1 E.2.1 dX9_order_83 (by decide) ?_
                  exact w_iret E S hM hr hk dX9_order_84
                · replace hM := x_okF hM c70
                  refine w_aload_n E hl 0 dX9_order_73 rfl ?_
                  refine w_rI E S hM lk_9_173 rfl dX9_order_74 (fun v74 hM => ?_)
                  refine lv_sipush (v := (1000 : Int32)) E.1 E.2.1 dX9_order_77 (by decide) ?_
                  refine lv_icmp_ne (tgt := 85) E.1 E.2.1 dX9_order_80 (by decide) (fun c80 => ?_) (fun c80 => ?_)
                  · replace hM := x_okF hM c80
                    refine w_aload_n E hl 0 dX9_order_85 rfl ?_
                    refine w_rI E S hM lk_9_142 rfl dX9_order_86 (fun v86 hM => ?_)
                    refine w_istore (lt' := [(5, .inl v86), (0, .inr (.inl r0)), (1, .inl x1), (2, .inl x2), (3, .inl x3), (4, .inl x4)]) E hl dX9_order_89 (by decide) rfl (fun ls hl => ?_)
                    refine w_aload_n E hl 1 dX9_order_91 rfl ?_
                    refine w_rR E S hM lk_9_49 rfl dX9_order_92 (fun v92 hM => ?_)
                    refine w_iload E hl 0 dX9_order_95 rfl ?_
                    refine w_iload_n E hl 2 dX9_order_97 rfl ?_
                    refine w_sI E S hM dX9_order_98 (fun σ H locs S hM => ?_)
                    refine w_aload_n E hl 1 dX9_order_99 rfl ?_
                    refine w_rR E S hM lk_9_52 rfl dX9_order_100 (fun v100 hM => ?_)
                    refine w_iload E hl 0 dX9_order_103 rfl ?_
                    refine w_iload_n E hl 3 dX9_order_105 rfl ?_
                    refine w_sI E S hM dX9_order_106 (fun σ H locs S hM => ?_)
                    refine w_aload_n E hl 1 dX9_order_107 rfl ?_
                    refine w_rR E S hM lk_9_55 rfl dX9_order_108 (fun v108 hM => ?_)
                    refine w_iload E hl 0 dX9_order_111 rfl ?_
                    refine w_iload_n E hl 4 dX9_order_113 rfl ?_
                    refine w_sI E S hM dX9_order_114 (fun σ H locs S hM => ?_)
                    refine w_aload_n E hl 1 dX9_order_115 rfl ?_
                    refine w_rR E S hM lk_9_58 rfl dX9_order_116 (fun v116 hM => ?_)
                    refine w_iload E hl 0 dX9_order_119 rfl ?_
                    refine w_iload E hl 5 dX9_order_121 rfl ?_
                    refine w_sI E S hM dX9_order_123 (fun σ H locs S hM => ?_)
                    refine w_aload_n E hl 1 dX9_order_124 rfl ?_
                    refine w_rR E S hM lk_9_61 rfl dX9_order_125 (fun v125 hM => ?_)
                    refine w_iload E hl 0 dX9_order_128 rfl ?_
                    refine w_aload_n E hl 1 dX9_order_130 rfl ?_
                    refine w_iload_n E hl 4 dX9_order_131 rfl ?_
                    refine w_cVi (rest := [.int v86, va_rf v125]) E S hl hM (kX9_fee l base D dA F r0 x3) mcX9_fee ⟨by decide, rfl, wd_799, wd_787, wd_788⟩ hfr hlo (by decide) rfl (Nat.le_of_ble_eq_true rfl) dX9_order_132 rfl (fun v132 σ H locs S hM => ?_)
                    refine w_sI E S hM dX9_order_135 (fun σ H locs S hM => ?_)
                    refine w_aload_n E hl 1 dX9_order_136 rfl ?_
                    refine w_rR E S hM lk_9_80 rfl dX9_order_137 (fun v137 hM => ?_)
                    refine w_iload E hl 0 dX9_order_140 rfl ?_
                    refine lv_iconst (v := (-1 : Int32)) E.1 E.2.1 dX9_order_142 (by decide) ?_
                    refine w_sI E S hM dX9_order_143 (fun σ H locs S hM => ?_)
                    refine w_aload_n E hl 1 dX9_order_144 rfl ?_
                    refine lv_dup E.1 E.2.1 dX9_order_145 (x_cat _) ?_
                    refine w_rI E S hM lk_9_142 rfl dX9_order_146 (fun v146 hM => ?_)
                    refine lv_iconst (v := (1 : Int32)) E.1 E.2.1 dX9_order_149 (by decide) ?_
                    refine lv_iadd E.1 E.2.1 dX9_order_150 ?_
                    refine w_wI E S hM lk_9_142 rfl (Or.inl rfl) dX9_order_151 (fun σ H locs S hM => ?_)
                    refine w_aload_n E hl 1 dX9_order_154 rfl ?_
                    refine w_rR E S hM lk_9_9 rfl dX9_order_155 (fun v155 hM => ?_)
                    refine w_iload_n E hl 2 dX9_order_158 rfl ?_
                    refine lv_dup2_11 E.1 E.2.1 dX9_order_159 rfl (x_cat _) ?_
                    refine w_aI E S hM dX9_order_160 (fun v160 hM => ?_)
                    refine w_iload_n E hl 4 dX9_order_161 rfl ?_
                    refine w_aload_n E hl 1 dX9_order_162 rfl ?_
                    refine w_rR E S hM lk_9_61 rfl dX9_order_163 (fun v163 hM => ?_)
                    refine w_iload E hl 0 dX9_order_166 rfl ?_
                    refine w_aI E S hM dX9_order_168 (fun v168 hM => ?_)
                    refine lv_iadd E.1 E.2.1 dX9_order_169 ?_
                    refine lv_iadd E.1 E.2.1 dX9_order_170 ?_
                    refine w_sI E S hM dX9_order_171 (fun σ H locs S hM => ?_)
                    refine w_aload_n E hl 1 dX9_order_172 rfl ?_
                    refine w_rR E S hM lk_9_19 rfl dX9_order_173 (fun v173 hM => ?_)
                    refine w_iload_n E hl 2 dX9_order_176 rfl ?_
                    refine lv_dup2_11 E.1 E.2.1 dX9_order_177 rfl (x_cat _) ?_
                    refine w_aI E S hM dX9_order_178 (fun v178 hM => ?_)
                    refine w_aload_n E hl 1 dX9_order_179 rfl ?_
                    refine w_rR E S hM lk_9_61 rfl dX9_order_180 (fun v180 hM => ?_)
                    refine w_iload E hl 0 dX9_order_183 rfl ?_
                    refine w_aI E S hM dX9_order_185 (fun v185 hM => ?_)
                    refine lv_iadd E.1 E.2.1 dX9_order_186 ?_
                    refine w_sI E S hM dX9_order_187 (fun σ H locs S hM => ?_)
                    refine w_aload_n E hl 1 dX9_order_188 rfl ?_
                    refine lv_iconst (v := (0 : Int32)) E.1 E.2.1 dX9_order_189 (by decide) ?_
                    refine w_iload E hl 0 dX9_order_190 rfl ?_
                    refine w_iload_n E hl 2 dX9_order_192 rfl ?_
                    refine w_iload_n E hl 3 dX9_order_193 rfl ?_
                    refine w_cVi (rest := []) E S hl hM (kX9_writes l base D dA F r0 (0 : Int32) v86 x1 x2) mcX9_writes ⟨by decide, rfl, wd_800, wd_802, wp_24⟩ hfr hlo (by decide) rfl (Nat.le_of_ble_eq_true rfl) dX9_order_194 rfl (fun v194 σ H locs S hM => ?_)
                    refine lv_pop E.1 E.2.1 dX9_order_197 rfl ?_
                    refine w_iload E hl 0 dX9_order_198 rfl ?_
                    exact w_iret E S hM hr hk dX9_order_200
                  · replace hM := x_okT hM c80
                    refine lv_iconst (v := (-1 : Int32)) E.1 E.2.1 dX9_order_83 (by decide) ?_
                    exact w_iret E S hM hr hk dX9_order_84
            · replace hM := x_okT hM c50
              refine lv_iconst (v := (-1 : Int32)) E.1 E.2.1 dX9_order_53 (by decide) ?_
              exact w_iret E S hM hr hk dX9_order_54
theorem dX9_stop_0 : decode cX9_stop 0 = .ok (.aload_n 0, 1) := by decide +kernel
theorem dX9_stop_1 : decode cX9_stop 1 = .ok (.iload_n 1, 1) := by decide +kernel
theorem dX9_stop_2 : decode cX9_stop 2 = .ok (.invokevirtual 199, 3) := by decide +kernel
theorem dX9_stop_5 : decode cX9_stop 5 = .ok (.ifCond .eq 22, 3) := by decide +kernel
theorem dX9_stop_8 : decode cX9_stop 8 = .ok (.aload_n 0, 1) := by decide +kernel
theorem dX9_stop_9 : decode cX9_stop 9 = .ok (.getfield 77, 3) := by decide +kernel
theorem dX9_stop_12 : decode cX9_stop 12 = .ok (.iload_n 1, 1) := by decide +kernel
theorem dX9_stop_13 : decode cX9_stop 13 = .ok (.baload, 1) := by decide +kernel
theorem dX9_stop_14 : decode cX9_stop 14 = .ok (.ifCond .ne 13, 3) := by decide +kernel
theorem dX9_stop_17 : decode cX9_stop 17 = .ok (.aload_n 0, 1) := by decide +kernel
theorem dX9_stop_18 : decode cX9_stop 18 = .ok (.getfield 173, 3) := by decide +kernel
theorem dX9_stop_21 : decode cX9_stop 21 = .ok (.sipush 1000, 3) := by decide +kernel
theorem dX9_stop_24 : decode cX9_stop 24 = .ok (.if_icmp .ne 5, 3) := by decide +kernel
theorem dX9_stop_27 : decode cX9_stop 27 = .ok (.iconst (-1), 1) := by decide +kernel
theorem dX9_stop_28 : decode cX9_stop 28 = .ok (.ireturn, 1) := by decide +kernel
theorem dX9_stop_29 : decode cX9_stop 29 = .ok (.aload_n 0, 1) := by decide +kernel
theorem dX9_stop_30 : decode cX9_stop 30 = .ok (.getfield 77, 3) := by decide +kernel
theorem dX9_stop_33 : decode cX9_stop 33 = .ok (.iload_n 1, 1) := by decide +kernel
theorem dX9_stop_34 : decode cX9_stop 34 = .ok (.iconst 1, 1) := by decide +kernel
theorem dX9_stop_35 : decode cX9_stop 35 = .ok (.bastore, 1) := by decide +kernel
theorem dX9_stop_36 : decode cX9_stop 36 = .ok (.aload_n 0, 1) := by decide +kernel
theorem dX9_stop_37 : decode cX9_stop 37 = .ok (.iconst 1, 1) := by decide +kernel
theorem dX9_stop_38 : decode cX9_stop 38 = .ok (.iload_n 1, 1) := by decide +kernel
theorem dX9_stop_39 : decode cX9_stop 39 = .ok (.aload_n 0, 1) := by decide +kernel
theorem dX9_stop_40 : decode cX9_stop 40 = .ok (.getfield 49, 3) := by decide +kernel
theorem dX9_stop_43 : decode cX9_stop 43 = .ok (.iload_n 1, 1) := by decide +kernel
theorem dX9_stop_44 : decode cX9_stop 44 = .ok (.iaload, 1) := by decide +kernel
theorem dX9_stop_45 : decode cX9_stop 45 = .ok (.aload_n 0, 1) := by decide +kernel
theorem dX9_stop_46 : decode cX9_stop 46 = .ok (.getfield 52, 3) := by decide +kernel
theorem dX9_stop_49 : decode cX9_stop 49 = .ok (.iload_n 1, 1) := by decide +kernel
theorem dX9_stop_50 : decode cX9_stop 50 = .ok (.iaload, 1) := by decide +kernel
theorem dX9_stop_51 : decode cX9_stop 51 = .ok (.invokevirtual 195, 3) := by decide +kernel
theorem dX9_stop_54 : decode cX9_stop 54 = .ok (.ireturn, 1) := by decide +kernel
theorem mcX9_stop : x_mc yX9_stop cX9_stop 2 (some .int) 1 := ⟨wd_829, wd_4, by decide +kernel⟩
set_option maxHeartbeats 4000000 in
set_option maxRecDepth 100000 in
theorem kX9_stop (l : Launch) (base : Nat) (D : va_G) (dA : Nat → ClassId) (F : Nat) (r0 : Option Nat) (x1 : Int32) : x_Met l base D dA yX9_stop cX9_stop 2 (some .int) 4 95 [va_rf r0, .int x1] (mX9_stop F r0 x1) (fun x => some (.int x)) := by
  refine x_Met.of [(0, .inr (.inl r0)), (1, .inl x1)] (by decide) (Nat.le_of_ble_eq_true rfl) rfl rfl ?_
  intro p e R s m args below meth c σ a τ ls hfr hlo E hr hk hn S hM hl
  have E : x_E p s m args c cX9_stop 2 "WireMoneyModel" D dA := E
  unfold mX9_stop at hM
  refine w_aload_n E hl 0 dX9_stop_0 rfl ?_
  refine w_iload_n E hl 1 dX9_stop_1 rfl ?_
  refine w_cVi (rest := []) E S hl hM (kX9_isOrder l base D dA F r0 x1) mcX9_isOrder ⟨by decide, rfl, wd_830, wd_832, wp_29⟩ hfr hlo (by decide) rfl (Nat.le_of_ble_eq_true rfl) dX9_stop_2 rfl (fun v2 σ H locs S hM => ?_)
  refine lv_if_eq (tgt := 27) E.1 E.2.1 dX9_stop_5 (by decide) (fun c5 => ?_) (fun c5 => ?_)
  · replace hM := x_okT hM c5
    refine lv_iconst (v := (-1 : Int32)) E.1 E.2.1 dX9_stop_27 (by decide) ?_
    exact w_iret E S hM hr hk dX9_stop_28
  · replace hM := x_okF hM c5
    refine w_aload_n E hl 0 dX9_stop_8 rfl ?_
    refine w_rR E S hM lk_9_77 rfl dX9_stop_9 (fun v9 hM => ?_)
    refine w_iload_n E hl 1 dX9_stop_12 rfl ?_
    refine w_aZ E S hM dX9_stop_13 (fun v13 hM => ?_)
    refine lv_if_ne (tgt := 27) E.1 E.2.1 dX9_stop_14 (by decide) (fun c14 => ?_) (fun c14 => ?_)
    · replace hM := x_okF hM c14
      refine lv_iconst (v := (-1 : Int32)) E.1 E.2.1 dX9_stop_27 (by decide) ?_
      exact w_iret E S hM hr hk dX9_stop_28
    · replace hM := x_okT hM c14
      refine w_aload_n E hl 0 dX9_stop_17 rfl ?_
      refine w_rI E S hM lk_9_173 rfl dX9_stop_18 (fun v18 hM => ?_)
      refine lv_sipush (v := (1000 : Int32)) E.1 E.2.1 dX9_stop_21 (by decide) ?_
      refine lv_icmp_ne (tgt := 29) E.1 E.2.1 dX9_stop_24 (by decide) (fun c24 => ?_) (fun c24 => ?_)
      · replace hM := x_okF hM c24
        refine w_aload_n E hl 0 dX9_stop_29 rfl ?_
        refine w_rR E S hM lk_9_77 rfl dX9_stop_30 (fun v30 hM => ?_)
        refine w_iload_n E hl 1 dX9_stop_33 rfl ?_
        refine lv_iconst (v := (1 : Int32)) E.1 E.2.1 dX9_stop_34 (by decide) ?_
        refine w_sZ E S hM dX9_stop_35 (fun σ H locs S hM => ?_)
        refine w_aload_n E hl 0 dX9_stop_36 rfl ?_
        refine lv_iconst (v := (1 : Int32)) E.1 E.2.1 dX9_stop_37 (by decide) ?_
        refine w_iload_n E hl 1 dX9_stop_38 rfl ?_
        refine w_aload_n E hl 0 dX9_stop_39 rfl ?_
        refine w_rR E S hM lk_9_49 rfl dX9_stop_40 (fun v40 hM => ?_)
        refine w_iload_n E hl 1 dX9_stop_43 rfl ?_
        refine w_aI E S hM dX9_stop_44 (fun v44 hM => ?_)
        refine w_aload_n E hl 0 dX9_stop_45 rfl ?_
        refine w_rR E S hM lk_9_52 rfl dX9_stop_46 (fun v46 hM => ?_)
        refine w_iload_n E hl 1 dX9_stop_49 rfl ?_
        refine w_aI E S hM dX9_stop_50 (fun v50 hM => ?_)
        refine w_cVi (rest := []) E S hl hM (kX9_writes l base D dA F r0 (1 : Int32) x1 v44 v50) mcX9_writes ⟨by decide, rfl, wd_800, wd_802, wp_24⟩ hfr hlo (by decide) rfl (Nat.le_of_ble_eq_true rfl) dX9_stop_51 rfl (fun v51 σ H locs S hM => ?_)
        exact w_iret E S hM hr hk dX9_stop_54
      · replace hM := x_okT hM c24
        refine lv_iconst (v := (-1 : Int32)) E.1 E.2.1 dX9_stop_27 (by decide) ?_
        exact w_iret E S hM hr hk dX9_stop_28
theorem dX9_pay_0 : decode cX9_pay 0 = .ok (.aload_n 0, 1) := by decide +kernel
theorem dX9_pay_1 : decode cX9_pay 1 = .ok (.iload_n 1, 1) := by decide +kernel
theorem dX9_pay_2 : decode cX9_pay 2 = .ok (.invokevirtual 199, 3) := by decide +kernel
theorem dX9_pay_5 : decode cX9_pay 5 = .ok (.ifCond .eq 12, 3) := by decide +kernel
theorem dX9_pay_8 : decode cX9_pay 8 = .ok (.aload_n 0, 1) := by decide +kernel
theorem dX9_pay_9 : decode cX9_pay 9 = .ok (.getfield 64, 3) := by decide +kernel
theorem dX9_pay_12 : decode cX9_pay 12 = .ok (.iload_n 1, 1) := by decide +kernel
theorem dX9_pay_13 : decode cX9_pay 13 = .ok (.baload, 1) := by decide +kernel
theorem dX9_pay_14 : decode cX9_pay 14 = .ok (.ifCond .ne 5, 3) := by decide +kernel
theorem dX9_pay_17 : decode cX9_pay 17 = .ok (.iconst 1, 1) := by decide +kernel
theorem dX9_pay_18 : decode cX9_pay 18 = .ok (.ireturn, 1) := by decide +kernel
theorem dX9_pay_19 : decode cX9_pay 19 = .ok (.aload_n 0, 1) := by decide +kernel
theorem dX9_pay_20 : decode cX9_pay 20 = .ok (.getfield 68, 3) := by decide +kernel
theorem dX9_pay_23 : decode cX9_pay 23 = .ok (.iload_n 1, 1) := by decide +kernel
theorem dX9_pay_24 : decode cX9_pay 24 = .ok (.baload, 1) := by decide +kernel
theorem dX9_pay_25 : decode cX9_pay 25 = .ok (.ifCond .eq 5, 3) := by decide +kernel
theorem dX9_pay_28 : decode cX9_pay 28 = .ok (.iconst 2, 1) := by decide +kernel
theorem dX9_pay_29 : decode cX9_pay 29 = .ok (.ireturn, 1) := by decide +kernel
theorem dX9_pay_30 : decode cX9_pay 30 = .ok (.aload_n 0, 1) := by decide +kernel
theorem dX9_pay_31 : decode cX9_pay 31 = .ok (.getfield 71, 3) := by decide +kernel
theorem dX9_pay_34 : decode cX9_pay 34 = .ok (.iload_n 1, 1) := by decide +kernel
theorem dX9_pay_35 : decode cX9_pay 35 = .ok (.baload, 1) := by decide +kernel
theorem dX9_pay_36 : decode cX9_pay 36 = .ok (.ifCond .eq 5, 3) := by decide +kernel
theorem dX9_pay_39 : decode cX9_pay 39 = .ok (.iconst 3, 1) := by decide +kernel
theorem dX9_pay_40 : decode cX9_pay 40 = .ok (.ireturn, 1) := by decide +kernel
theorem dX9_pay_41 : decode cX9_pay 41 = .ok (.aload_n 0, 1) := by decide +kernel
theorem dX9_pay_42 : decode cX9_pay 42 = .ok (.aload_n 0, 1) := by decide +kernel
theorem dX9_pay_43 : decode cX9_pay 43 = .ok (.getfield 52, 3) := by decide +kernel
theorem dX9_pay_46 : decode cX9_pay 46 = .ok (.iload_n 1, 1) := by decide +kernel
theorem dX9_pay_47 : decode cX9_pay 47 = .ok (.iaload, 1) := by decide +kernel
theorem dX9_pay_48 : decode cX9_pay 48 = .ok (.invokevirtual 189, 3) := by decide +kernel
theorem dX9_pay_51 : decode cX9_pay 51 = .ok (.ifCond .ne 5, 3) := by decide +kernel
theorem dX9_pay_54 : decode cX9_pay 54 = .ok (.iconst 4, 1) := by decide +kernel
theorem dX9_pay_55 : decode cX9_pay 55 = .ok (.ireturn, 1) := by decide +kernel
theorem dX9_pay_56 : decode cX9_pay 56 = .ok (.aload_n 0, 1) := by decide +kernel
theorem dX9_pay_57 : decode cX9_pay 57 = .ok (.getfield 58, 3) := by decide +kernel
theorem dX9_pay_60 : decode cX9_pay 60 = .ok (.iload_n 1, 1) := by decide +kernel
theorem dX9_pay_61 : decode cX9_pay 61 = .ok (.iaload, 1) := by decide +kernel
theorem dX9_pay_62 : decode cX9_pay 62 = .ok (.iload_n 2, 1) := by decide +kernel
theorem dX9_pay_63 : decode cX9_pay 63 = .ok (.if_icmp .eq 5, 3) := by decide +kernel
theorem dX9_pay_66 : decode cX9_pay 66 = .ok (.iconst 5, 1) := by decide +kernel
theorem dX9_pay_67 : decode cX9_pay 67 = .ok (.ireturn, 1) := by decide +kernel
theorem dX9_pay_68 : decode cX9_pay 68 = .ok (.aload_n 0, 1) := by decide +kernel
theorem dX9_pay_69 : decode cX9_pay 69 = .ok (.getfield 9, 3) := by decide +kernel
theorem dX9_pay_72 : decode cX9_pay 72 = .ok (.aload_n 0, 1) := by decide +kernel
theorem dX9_pay_73 : decode cX9_pay 73 = .ok (.getfield 52, 3) := by decide +kernel
theorem dX9_pay_76 : decode cX9_pay 76 = .ok (.iload_n 1, 1) := by decide +kernel
theorem dX9_pay_77 : decode cX9_pay 77 = .ok (.iaload, 1) := by decide +kernel
theorem dX9_pay_78 : decode cX9_pay 78 = .ok (.iaload, 1) := by decide +kernel
theorem dX9_pay_79 : decode cX9_pay 79 = .ok (.aload_n 0, 1) := by decide +kernel
theorem dX9_pay_80 : decode cX9_pay 80 = .ok (.getfield 55, 3) := by decide +kernel
theorem dX9_pay_83 : decode cX9_pay 83 = .ok (.iload_n 1, 1) := by decide +kernel
theorem dX9_pay_84 : decode cX9_pay 84 = .ok (.iaload, 1) := by decide +kernel
theorem dX9_pay_85 : decode cX9_pay 85 = .ok (.if_icmp .ge 6, 3) := by decide +kernel
theorem dX9_pay_88 : decode cX9_pay 88 = .ok (.bipush 6, 2) := by decide +kernel
theorem dX9_pay_90 : decode cX9_pay 90 = .ok (.ireturn, 1) := by decide +kernel
theorem dX9_pay_91 : decode cX9_pay 91 = .ok (.aload_n 0, 1) := by decide +kernel
theorem dX9_pay_92 : decode cX9_pay 92 = .ok (.getfield 9, 3) := by decide +kernel
theorem dX9_pay_95 : decode cX9_pay 95 = .ok (.aload_n 0, 1) := by decide +kernel
theorem dX9_pay_96 : decode cX9_pay 96 = .ok (.getfield 52, 3) := by decide +kernel
theorem dX9_pay_99 : decode cX9_pay 99 = .ok (.iload_n 1, 1) := by decide +kernel
theorem dX9_pay_100 : decode cX9_pay 100 = .ok (.iaload, 1) := by decide +kernel
theorem dX9_pay_101 : decode cX9_pay 101 = .ok (.dup2, 1) := by decide +kernel
theorem dX9_pay_102 : decode cX9_pay 102 = .ok (.iaload, 1) := by decide +kernel
theorem dX9_pay_103 : decode cX9_pay 103 = .ok (.aload_n 0, 1) := by decide +kernel
theorem dX9_pay_104 : decode cX9_pay 104 = .ok (.getfield 55, 3) := by decide +kernel
theorem dX9_pay_107 : decode cX9_pay 107 = .ok (.iload_n 1, 1) := by decide +kernel
theorem dX9_pay_108 : decode cX9_pay 108 = .ok (.iaload, 1) := by decide +kernel
theorem dX9_pay_109 : decode cX9_pay 109 = .ok (.isub, 1) := by decide +kernel
theorem dX9_pay_110 : decode cX9_pay 110 = .ok (.iastore, 1) := by decide +kernel
theorem dX9_pay_111 : decode cX9_pay 111 = .ok (.aload_n 0, 1) := by decide +kernel
theorem dX9_pay_112 : decode cX9_pay 112 = .ok (.getfield 22, 3) := by decide +kernel
theorem dX9_pay_115 : decode cX9_pay 115 = .ok (.aload_n 0, 1) := by decide +kernel
theorem dX9_pay_116 : decode cX9_pay 116 = .ok (.getfield 52, 3) := by decide +kernel
theorem dX9_pay_119 : decode cX9_pay 119 = .ok (.iload_n 1, 1) := by decide +kernel
theorem dX9_pay_120 : decode cX9_pay 120 = .ok (.iaload, 1) := by decide +kernel
theorem dX9_pay_121 : decode cX9_pay 121 = .ok (.dup2, 1) := by decide +kernel
theorem dX9_pay_122 : decode cX9_pay 122 = .ok (.iaload, 1) := by decide +kernel
theorem dX9_pay_123 : decode cX9_pay 123 = .ok (.aload_n 0, 1) := by decide +kernel
theorem dX9_pay_124 : decode cX9_pay 124 = .ok (.getfield 55, 3) := by decide +kernel
theorem dX9_pay_127 : decode cX9_pay 127 = .ok (.iload_n 1, 1) := by decide +kernel
theorem dX9_pay_128 : decode cX9_pay 128 = .ok (.iaload, 1) := by decide +kernel
theorem dX9_pay_129 : decode cX9_pay 129 = .ok (.iadd, 1) := by decide +kernel
theorem dX9_pay_130 : decode cX9_pay 130 = .ok (.iastore, 1) := by decide +kernel
theorem dX9_pay_131 : decode cX9_pay 131 = .ok (.aload_n 0, 1) := by decide +kernel
theorem dX9_pay_132 : decode cX9_pay 132 = .ok (.getfield 22, 3) := by decide +kernel
theorem dX9_pay_135 : decode cX9_pay 135 = .ok (.aload_n 0, 1) := by decide +kernel
theorem dX9_pay_136 : decode cX9_pay 136 = .ok (.getfield 49, 3) := by decide +kernel
theorem dX9_pay_139 : decode cX9_pay 139 = .ok (.iload_n 1, 1) := by decide +kernel
theorem dX9_pay_140 : decode cX9_pay 140 = .ok (.iaload, 1) := by decide +kernel
theorem dX9_pay_141 : decode cX9_pay 141 = .ok (.dup2, 1) := by decide +kernel
theorem dX9_pay_142 : decode cX9_pay 142 = .ok (.iaload, 1) := by decide +kernel
theorem dX9_pay_143 : decode cX9_pay 143 = .ok (.aload_n 0, 1) := by decide +kernel
theorem dX9_pay_144 : decode cX9_pay 144 = .ok (.getfield 55, 3) := by decide +kernel
theorem dX9_pay_147 : decode cX9_pay 147 = .ok (.iload_n 1, 1) := by decide +kernel
theorem dX9_pay_148 : decode cX9_pay 148 = .ok (.iaload, 1) := by decide +kernel
theorem dX9_pay_149 : decode cX9_pay 149 = .ok (.isub, 1) := by decide +kernel
theorem dX9_pay_150 : decode cX9_pay 150 = .ok (.iastore, 1) := by decide +kernel
theorem dX9_pay_151 : decode cX9_pay 151 = .ok (.aload_n 0, 1) := by decide +kernel
theorem dX9_pay_152 : decode cX9_pay 152 = .ok (.getfield 68, 3) := by decide +kernel
theorem dX9_pay_155 : decode cX9_pay 155 = .ok (.iload_n 1, 1) := by decide +kernel
theorem dX9_pay_156 : decode cX9_pay 156 = .ok (.iconst 1, 1) := by decide +kernel
theorem dX9_pay_157 : decode cX9_pay 157 = .ok (.bastore, 1) := by decide +kernel
theorem dX9_pay_158 : decode cX9_pay 158 = .ok (.aload_n 0, 1) := by decide +kernel
theorem dX9_pay_159 : decode cX9_pay 159 = .ok (.getfield 80, 3) := by decide +kernel
theorem dX9_pay_162 : decode cX9_pay 162 = .ok (.iload_n 1, 1) := by decide +kernel
theorem dX9_pay_163 : decode cX9_pay 163 = .ok (.aload_n 0, 1) := by decide +kernel
theorem dX9_pay_164 : decode cX9_pay 164 = .ok (.getfield 146, 3) := by decide +kernel
theorem dX9_pay_167 : decode cX9_pay 167 = .ok (.iastore, 1) := by decide +kernel
theorem dX9_pay_168 : decode cX9_pay 168 = .ok (.aload_n 0, 1) := by decide +kernel
theorem dX9_pay_169 : decode cX9_pay 169 = .ok (.dup, 1) := by decide +kernel
theorem dX9_pay_170 : decode cX9_pay 170 = .ok (.getfield 202, 3) := by decide +kernel
theorem dX9_pay_173 : decode cX9_pay 173 = .ok (.iconst 1, 1) := by decide +kernel
theorem dX9_pay_174 : decode cX9_pay 174 = .ok (.iadd, 1) := by decide +kernel
theorem dX9_pay_175 : decode cX9_pay 175 = .ok (.putfield 202, 3) := by decide +kernel
theorem dX9_pay_178 : decode cX9_pay 178 = .ok (.iconst 0, 1) := by decide +kernel
theorem dX9_pay_179 : decode cX9_pay 179 = .ok (.ireturn, 1) := by decide +kernel
theorem mcX9_pay : x_mc yX9_pay cX9_pay 3 (some .int) 2 := ⟨wd_837, wd_4, by decide +kernel⟩
set_option maxHeartbeats 4000000 in
set_option maxRecDepth 100000 in
theorem kX9_pay (l : Launch) (base : Nat) (D : va_G) (dA : Nat → ClassId) (F : Nat) (r0 : Option Nat) (x1 : Int32) (x2 : Int32) : x_Met l base D dA yX9_pay cX9_pay 3 (some .int) 2 43 [va_rf r0, .int x1, .int x2] (mX9_pay F r0 x1 x2) (fun x => some (.int x)) := by
  refine x_Met.of [(0, .inr (.inl r0)), (1, .inl x1), (2, .inl x2)] (by decide) (Nat.le_of_ble_eq_true rfl) rfl rfl ?_
  intro p e R s m args below meth c σ a τ ls hfr hlo E hr hk hn S hM hl
  have E : x_E p s m args c cX9_pay 3 "WireMoneyModel" D dA := E
  unfold mX9_pay at hM
  refine w_aload_n E hl 0 dX9_pay_0 rfl ?_
  refine w_iload_n E hl 1 dX9_pay_1 rfl ?_
  refine w_cVi (rest := []) E S hl hM (kX9_isOrder l base D dA F r0 x1) mcX9_isOrder ⟨by decide, rfl, wd_830, wd_832, wp_29⟩ hfr hlo (by decide) rfl (Nat.le_of_ble_eq_true rfl) dX9_pay_2 rfl (fun v2 σ H locs S hM => ?_)
  refine lv_if_eq (tgt := 17) E.1 E.2.1 dX9_pay_5 (by decide) (fun c5 => ?_) (fun c5 => ?_)
  · replace hM := x_okT hM c5
    refine lv_iconst (v := (1 : Int32)) E.1 E.2.1 dX9_pay_17 (by decide) ?_
    exact w_iret E S hM hr hk dX9_pay_18
  · replace hM := x_okF hM c5
    refine w_aload_n E hl 0 dX9_pay_8 rfl ?_
    refine w_rR E S hM lk_9_64 rfl dX9_pay_9 (fun v9 hM => ?_)
    refine w_iload_n E hl 1 dX9_pay_12 rfl ?_
    refine w_aZ E S hM dX9_pay_13 (fun v13 hM => ?_)
    refine lv_if_ne (tgt := 19) E.1 E.2.1 dX9_pay_14 (by decide) (fun c14 => ?_) (fun c14 => ?_)
    · replace hM := x_okF hM c14
      refine w_aload_n E hl 0 dX9_pay_19 rfl ?_
      refine w_rR E S hM lk_9_68 rfl dX9_pay_20 (fun v20 hM => ?_)
      refine w_iload_n E hl 1 dX9_pay_23 rfl ?_
      refine w_aZ E S hM dX9_pay_24 (fun v24 hM => ?_)
      refine lv_if_eq (tgt := 30) E.1 E.2.1 dX9_pay_25 (by decide) (fun c25 => ?_) (fun c25 => ?_)
      · replace hM := x_okT hM c25
        refine w_aload_n E hl 0 dX9_pay_30 rfl ?_
        refine w_rR E S hM lk_9_71 rfl dX9_pay_31 (fun v31 hM => ?_)
        refine w_iload_n E hl 1 dX9_pay_34 rfl ?_
        refine w_aZ E S hM dX9_pay_35 (fun v35 hM => ?_)
        refine lv_if_eq (tgt := 41) E.1 E.2.1 dX9_pay_36 (by decide) (fun c36 => ?_) (fun c36 => ?_)
        · replace hM := x_okT hM c36
          refine w_aload_n E hl 0 dX9_pay_41 rfl ?_
          refine w_aload_n E hl 0 dX9_pay_42 rfl ?_
          refine w_rR E S hM lk_9_52 rfl dX9_pay_43 (fun v43 hM => ?_)
          refine w_iload_n E hl 1 dX9_pay_46 rfl ?_
          refine w_aI E S hM dX9_pay_47 (fun v47 hM => ?_)
          refine w_cVi (rest := []) E S hl hM (kX9_isOpen l base D dA F r0 v47) mcX9_isOpen ⟨by decide, rfl, wd_795, wd_797, wp_23⟩ hfr hlo (by decide) rfl (Nat.le_of_ble_eq_true rfl) dX9_pay_48 rfl (fun v48 σ H locs S hM => ?_)
          refine lv_if_ne (tgt := 56) E.1 E.2.1 dX9_pay_51 (by decide) (fun c51 => ?_) (fun c51 => ?_)
          · replace hM := x_okF hM c51
            refine w_aload_n E hl 0 dX9_pay_56 rfl ?_
            refine w_rR E S hM lk_9_58 rfl dX9_pay_57 (fun v57 hM => ?_)
            refine w_iload_n E hl 1 dX9_pay_60 rfl ?_
            refine w_aI E S hM dX9_pay_61 (fun v61 hM => ?_)
            refine w_iload_n E hl 2 dX9_pay_62 rfl ?_
            refine lv_icmp_eq (tgt := 68) E.1 E.2.1 dX9_pay_63 (by decide) (fun c63 => ?_) (fun c63 => ?_)
            · replace hM := x_okT hM c63
              refine w_aload_n E hl 0 dX9_pay_68 rfl ?_
              refine w_rR E S hM lk_9_9 rfl dX9_pay_69 (fun v69 hM => ?_)
              refine w_aload_n E hl 0 dX9_pay_72 rfl ?_
              refine w_rR E S hM lk_9_52 rfl dX9_pay_73 (fun v73 hM => ?_)
              refine w_iload_n E hl 1 dX9_pay_76 rfl ?_
              refine w_aI E S hM dX9_pay_77 (fun v77 hM => ?_)
              refine w_aI E S hM dX9_pay_78 (fun v78 hM => ?_)
              refine w_aload_n E hl 0 dX9_pay_79 rfl ?_
              refine w_rR E S hM lk_9_55 rfl dX9_pay_80 (fun v80 hM => ?_)
              refine w_iload_n E hl 1 dX9_pay_83 rfl ?_
              refine w_aI E S hM dX9_pay_84 (fun v84 hM => ?_)
              refine lv_icmp_ge (tgt := 91) E.1 E.2.1 dX9_pay_85 (by decide) (fun c85 => ?_) (fun c85 => ?_)
              · replace hM := x_okT hM c85
                refine w_aload_n E hl 0 dX9_pay_91 rfl ?_
                refine w_rR E S hM lk_9_9 rfl dX9_pay_92 (fun v92 hM => ?_)
                refine w_aload_n E hl 0 dX9_pay_95 rfl ?_
                refine w_rR E S hM lk_9_52 rfl dX9_pay_96 (fun v96 hM => ?_)
                refine w_iload_n E hl 1 dX9_pay_99 rfl ?_
                refine w_aI E S hM dX9_pay_100 (fun v100 hM => ?_)
                refine lv_dup2_11 E.1 E.2.1 dX9_pay_101 rfl (x_cat _) ?_
                refine w_aI E S hM dX9_pay_102 (fun v102 hM => ?_)
                refine w_aload_n E hl 0 dX9_pay_103 rfl ?_
                refine w_rR E S hM lk_9_55 rfl dX9_pay_104 (fun v104 hM => ?_)
                refine w_iload_n E hl 1 dX9_pay_107 rfl ?_
                refine w_aI E S hM dX9_pay_108 (fun v108 hM => ?_)
                refine lv_isub E.1 E.2.1 dX9_pay_109 ?_
                refine w_sI E S hM dX9_pay_110 (fun σ H locs S hM => ?_)
                refine w_aload_n E hl 0 dX9_pay_111 rfl ?_
                refine w_rR E S hM lk_9_22 rfl dX9_pay_112 (fun v112 hM => ?_)
                refine w_aload_n E hl 0 dX9_pay_115 rfl ?_
                refine w_rR E S hM lk_9_52 rfl dX9_pay_116 (fun v116 hM => ?_)
                refine w_iload_n E hl 1 dX9_pay_119 rfl ?_
                refine w_aI E S hM dX9_pay_120 (fun v120 hM => ?_)
                refine lv_dup2_11 E.1 E.2.1 dX9_pay_121 rfl (x_cat _) ?_
                refine w_aI E S hM dX9_pay_122 (fun v122 hM => ?_)
                refine w_aload_n E hl 0 dX9_pay_123 rfl ?_
                refine w_rR E S hM lk_9_55 rfl dX9_pay_124 (fun v124 hM => ?_)
                refine w_iload_n E hl 1 dX9_pay_127 rfl ?_
                refine w_aI E S hM dX9_pay_128 (fun v128 hM => ?_)
                refine lv_iadd E.1 E.2.1 dX9_pay_129 ?_
                refine w_sI E S hM dX9_pay_130 (fun σ H locs S hM => ?_)
                refine w_aload_n E hl 0 dX9_pay_131 rfl ?_
                refine w_rR E S hM lk_9_22 rfl dX9_pay_132 (fun v132 hM => ?_)
                refine w_aload_n E hl 0 dX9_pay_135 rfl ?_
                refine w_rR E S hM lk_9_49 rfl dX9_pay_136 (fun v136 hM => ?_)
                refine w_iload_n E hl 1 dX9_pay_139 rfl ?_
                refine w_aI E S hM dX9_pay_140 (fun v140 hM => ?_)
                refine lv_dup2_11 E.1 E.2.1 dX9_pay_141 rfl (x_cat _) ?_
                refine w_aI E S hM dX9_pay_142 (fun v142 hM => ?_)
                refine w_aload_n E hl 0 dX9_pay_143 rfl ?_
                refine w_rR E S hM lk_9_55 rfl dX9_pay_144 (fun v144 hM => ?_)
                refine w_iload_n E hl 1 dX9_pay_147 rfl ?_
                refine w_aI E S hM dX9_pay_148 (fun v148 hM => ?_)
                refine lv_isub E.1 E.2.1 dX9_pay_149 ?_
                refine w_sI E S hM dX9_pay_150 (fun σ H locs S hM => ?_)
                refine w_aload_n E hl 0 dX9_pay_151 rfl ?_
                refine w_rR E S hM lk_9_68 rfl dX9_pay_152 (fun v152 hM => ?_)
                refine w_iload_n E hl 1 dX9_pay_155 rfl ?_
                refine lv_iconst (v := (1 : Int32)) E.1 E.2.1 dX9_pay_156 (by decide) ?_
                refine w_sZ E S hM dX9_pay_157 (fun σ H locs S hM => ?_)
                refine w_aload_n E hl 0 dX9_pay_158 rfl ?_
                refine w_rR E S hM lk_9_80 rfl dX9_pay_159 (fun v159 hM => ?_)
                refine w_iload_n E hl 1 dX9_pay_162 rfl ?_
                refine w_aload_n E hl 0 dX9_pay_163 rfl ?_
                refine w_rI E S hM lk_9_146 rfl dX9_pay_164 (fun v164 hM => ?_)
                refine w_sI E S hM dX9_pay_167 (fun σ H locs S hM => ?_)
                refine w_aload_n E hl 0 dX9_pay_168 rfl ?_
                refine lv_dup E.1 E.2.1 dX9_pay_169 (x_cat _) ?_
                refine w_rI E S hM lk_9_202 rfl dX9_pay_170 (fun v170 hM => ?_)
                refine lv_iconst (v := (1 : Int32)) E.1 E.2.1 dX9_pay_173 (by decide) ?_
                refine lv_iadd E.1 E.2.1 dX9_pay_174 ?_
                refine w_wI E S hM lk_9_202 rfl (Or.inl rfl) dX9_pay_175 (fun σ H locs S hM => ?_)
                refine lv_iconst (v := (0 : Int32)) E.1 E.2.1 dX9_pay_178 (by decide) ?_
                exact w_iret E S hM hr hk dX9_pay_179
              · replace hM := x_okF hM c85
                refine lv_bipush (v := (6 : Int32)) E.1 E.2.1 dX9_pay_88 (by decide) ?_
                exact w_iret E S hM hr hk dX9_pay_90
            · replace hM := x_okF hM c63
              refine lv_iconst (v := (5 : Int32)) E.1 E.2.1 dX9_pay_66 (by decide) ?_
              exact w_iret E S hM hr hk dX9_pay_67
          · replace hM := x_okT hM c51
            refine lv_iconst (v := (4 : Int32)) E.1 E.2.1 dX9_pay_54 (by decide) ?_
            exact w_iret E S hM hr hk dX9_pay_55
        · replace hM := x_okF hM c36
          refine lv_iconst (v := (3 : Int32)) E.1 E.2.1 dX9_pay_39 (by decide) ?_
          exact w_iret E S hM hr hk dX9_pay_40
      · replace hM := x_okF hM c25
        refine lv_iconst (v := (2 : Int32)) E.1 E.2.1 dX9_pay_28 (by decide) ?_
        exact w_iret E S hM hr hk dX9_pay_29
    · replace hM := x_okT hM c14
      refine lv_iconst (v := (1 : Int32)) E.1 E.2.1 dX9_pay_17 (by decide) ?_
      exact w_iret E S hM hr hk dX9_pay_18
