theorem dX8_order_0 : decode cX8_order 0 = .ok (.aload_n 0, 1) := by decide +kernel
theorem dX8_order_1 : decode cX8_order 1 = .ok (.getfield 12, 3) := by decide +kernel
theorem dX8_order_4 : decode cX8_order 4 = .ok (.iload_n 1, 1) := by decide +kernel
theorem dX8_order_5 : decode cX8_order 5 = .ok (.invokevirtual 48, 3) := by decide +kernel
theorem dX8_order_8 : decode cX8_order 8 = .ok (.astore 5, 2) := by decide +kernel
theorem dX8_order_10 : decode cX8_order 10 = .ok (.aload_n 0, 1) := by decide +kernel
theorem dX8_order_11 : decode cX8_order 11 = .ok (.getfield 12, 3) := by decide +kernel
theorem dX8_order_14 : decode cX8_order 14 = .ok (.iload_n 2, 1) := by decide +kernel
theorem dX8_order_15 : decode cX8_order 15 = .ok (.invokevirtual 48, 3) := by decide +kernel
theorem dX8_order_18 : decode cX8_order 18 = .ok (.astore 6, 2) := by decide +kernel
theorem dX8_order_20 : decode cX8_order 20 = .ok (.aload 5, 2) := by decide +kernel
theorem dX8_order_22 : decode cX8_order 22 = .ok (.ifnull 82, 3) := by decide +kernel
theorem dX8_order_25 : decode cX8_order 25 = .ok (.aload 6, 2) := by decide +kernel
theorem dX8_order_27 : decode cX8_order 27 = .ok (.ifnull 77, 3) := by decide +kernel
theorem dX8_order_30 : decode cX8_order 30 = .ok (.aload 5, 2) := by decide +kernel
theorem dX8_order_32 : decode cX8_order 32 = .ok (.aload 6, 2) := by decide +kernel
theorem dX8_order_34 : decode cX8_order 34 = .ok (.if_acmp .eq 70, 3) := by decide +kernel
theorem dX8_order_37 : decode cX8_order 37 = .ok (.aload_n 0, 1) := by decide +kernel
theorem dX8_order_38 : decode cX8_order 38 = .ok (.getfield 12, 3) := by decide +kernel
theorem dX8_order_41 : decode cX8_order 41 = .ok (.aload 5, 2) := by decide +kernel
theorem dX8_order_43 : decode cX8_order 43 = .ok (.aload 6, 2) := by decide +kernel
theorem dX8_order_45 : decode cX8_order 45 = .ok (.invokevirtual 71, 3) := by decide +kernel
theorem dX8_order_48 : decode cX8_order 48 = .ok (.ifCond .eq 56, 3) := by decide +kernel
theorem dX8_order_51 : decode cX8_order 51 = .ok (.iload_n 3, 1) := by decide +kernel
theorem dX8_order_52 : decode cX8_order 52 = .ok (.iconst 1, 1) := by decide +kernel
theorem dX8_order_53 : decode cX8_order 53 = .ok (.ldc 79, 2) := by decide +kernel
theorem dX8_order_55 : decode cX8_order 55 = .ok (.invokestatic 40, 3) := by decide +kernel
theorem dX8_order_58 : decode cX8_order 58 = .ok (.ifCond .eq 46, 3) := by decide +kernel
theorem dX8_order_61 : decode cX8_order 61 = .ok (.iload 4, 2) := by decide +kernel
theorem dX8_order_63 : decode cX8_order 63 = .ok (.iconst 0, 1) := by decide +kernel
theorem dX8_order_64 : decode cX8_order 64 = .ok (.sipush 9999, 3) := by decide +kernel
theorem dX8_order_67 : decode cX8_order 67 = .ok (.invokestatic 40, 3) := by decide +kernel
theorem dX8_order_70 : decode cX8_order 70 = .ok (.ifCond .eq 34, 3) := by decide +kernel
theorem dX8_order_73 : decode cX8_order 73 = .ok (.aload 5, 2) := by decide +kernel
theorem dX8_order_75 : decode cX8_order 75 = .ok (.aload_n 0, 1) := by decide +kernel
theorem dX8_order_76 : decode cX8_order 76 = .ok (.getfield 60, 3) := by decide +kernel
theorem dX8_order_79 : decode cX8_order 79 = .ok (.invokevirtual 88, 3) := by decide +kernel
theorem dX8_order_82 : decode cX8_order 82 = .ok (.ifCond .eq 22, 3) := by decide +kernel
theorem dX8_order_85 : decode cX8_order 85 = .ok (.aload_n 0, 1) := by decide +kernel
theorem dX8_order_86 : decode cX8_order 86 = .ok (.getfield 94, 3) := by decide +kernel
theorem dX8_order_89 : decode cX8_order 89 = .ok (.aload_n 0, 1) := by decide +kernel
theorem dX8_order_90 : decode cX8_order 90 = .ok (.getfield 25, 3) := by decide +kernel
theorem dX8_order_93 : decode cX8_order 93 = .ok (.arraylength, 1) := by decide +kernel
theorem dX8_order_94 : decode cX8_order 94 = .ok (.if_icmp .ge 10, 3) := by decide +kernel
theorem dX8_order_97 : decode cX8_order 97 = .ok (.aload_n 0, 1) := by decide +kernel
theorem dX8_order_98 : decode cX8_order 98 = .ok (.invokevirtual 97, 3) := by decide +kernel
theorem dX8_order_101 : decode cX8_order 101 = .ok (.ifCond .ne 5, 3) := by decide +kernel
theorem dX8_order_104 : decode cX8_order 104 = .ok (.iconst (-1), 1) := by decide +kernel
theorem dX8_order_105 : decode cX8_order 105 = .ok (.ireturn, 1) := by decide +kernel
theorem dX8_order_106 : decode cX8_order 106 = .ok (.new 23, 3) := by decide +kernel
theorem dX8_order_109 : decode cX8_order 109 = .ok (.dup, 1) := by decide +kernel
theorem dX8_order_110 : decode cX8_order 110 = .ok (.aload_n 0, 1) := by decide +kernel
theorem dX8_order_111 : decode cX8_order 111 = .ok (.getfield 94, 3) := by decide +kernel
theorem dX8_order_114 : decode cX8_order 114 = .ok (.aload 5, 2) := by decide +kernel
theorem dX8_order_116 : decode cX8_order 116 = .ok (.aload 6, 2) := by decide +kernel
theorem dX8_order_118 : decode cX8_order 118 = .ok (.iload_n 3, 1) := by decide +kernel
theorem dX8_order_119 : decode cX8_order 119 = .ok (.iload 4, 2) := by decide +kernel
theorem dX8_order_121 : decode cX8_order 121 = .ok (.invokespecial 101, 3) := by decide +kernel
theorem dX8_order_124 : decode cX8_order 124 = .ok (.astore 7, 2) := by decide +kernel
theorem dX8_order_126 : decode cX8_order 126 = .ok (.aload 7, 2) := by decide +kernel
theorem dX8_order_128 : decode cX8_order 128 = .ok (.aload_n 0, 1) := by decide +kernel
theorem dX8_order_129 : decode cX8_order 129 = .ok (.getfield 19, 3) := by decide +kernel
theorem dX8_order_132 : decode cX8_order 132 = .ok (.iload_n 3, 1) := by decide +kernel
theorem dX8_order_133 : decode cX8_order 133 = .ok (.invokevirtual 84, 3) := by decide +kernel
theorem dX8_order_136 : decode cX8_order 136 = .ok (.putfield 104, 3) := by decide +kernel
theorem dX8_order_139 : decode cX8_order 139 = .ok (.aload_n 0, 1) := by decide +kernel
theorem dX8_order_140 : decode cX8_order 140 = .ok (.getfield 25, 3) := by decide +kernel
theorem dX8_order_143 : decode cX8_order 143 = .ok (.aload_n 0, 1) := by decide +kernel
theorem dX8_order_144 : decode cX8_order 144 = .ok (.getfield 94, 3) := by decide +kernel
theorem dX8_order_147 : decode cX8_order 147 = .ok (.aload 7, 2) := by decide +kernel
theorem dX8_order_149 : decode cX8_order 149 = .ok (.aastore, 1) := by decide +kernel
theorem dX8_order_150 : decode cX8_order 150 = .ok (.aload_n 0, 1) := by decide +kernel
theorem dX8_order_151 : decode cX8_order 151 = .ok (.dup, 1) := by decide +kernel
theorem dX8_order_152 : decode cX8_order 152 = .ok (.getfield 94, 3) := by decide +kernel
theorem dX8_order_155 : decode cX8_order 155 = .ok (.iconst 1, 1) := by decide +kernel
theorem dX8_order_156 : decode cX8_order 156 = .ok (.iadd, 1) := by decide +kernel
theorem dX8_order_157 : decode cX8_order 157 = .ok (.putfield 94, 3) := by decide +kernel
theorem dX8_order_160 : decode cX8_order 160 = .ok (.aload 5, 2) := by decide +kernel
theorem dX8_order_162 : decode cX8_order 162 = .ok (.dup, 1) := by decide +kernel
theorem dX8_order_163 : decode cX8_order 163 = .ok (.getfield 107, 3) := by decide +kernel
theorem dX8_order_166 : decode cX8_order 166 = .ok (.iload_n 3, 1) := by decide +kernel
theorem dX8_order_167 : decode cX8_order 167 = .ok (.aload 7, 2) := by decide +kernel
theorem dX8_order_169 : decode cX8_order 169 = .ok (.getfield 104, 3) := by decide +kernel
theorem dX8_order_172 : decode cX8_order 172 = .ok (.iadd, 1) := by decide +kernel
theorem dX8_order_173 : decode cX8_order 173 = .ok (.iadd, 1) := by decide +kernel
theorem dX8_order_174 : decode cX8_order 174 = .ok (.putfield 107, 3) := by decide +kernel
theorem dX8_order_177 : decode cX8_order 177 = .ok (.aload 5, 2) := by decide +kernel
theorem dX8_order_179 : decode cX8_order 179 = .ok (.dup, 1) := by decide +kernel
theorem dX8_order_180 : decode cX8_order 180 = .ok (.getfield 110, 3) := by decide +kernel
theorem dX8_order_183 : decode cX8_order 183 = .ok (.aload 7, 2) := by decide +kernel
theorem dX8_order_185 : decode cX8_order 185 = .ok (.getfield 104, 3) := by decide +kernel
theorem dX8_order_188 : decode cX8_order 188 = .ok (.iadd, 1) := by decide +kernel
theorem dX8_order_189 : decode cX8_order 189 = .ok (.putfield 110, 3) := by decide +kernel
theorem dX8_order_192 : decode cX8_order 192 = .ok (.aload_n 0, 1) := by decide +kernel
theorem dX8_order_193 : decode cX8_order 193 = .ok (.iconst 0, 1) := by decide +kernel
theorem dX8_order_194 : decode cX8_order 194 = .ok (.aload 7, 2) := by decide +kernel
theorem dX8_order_196 : decode cX8_order 196 = .ok (.invokevirtual 113, 3) := by decide +kernel
theorem dX8_order_199 : decode cX8_order 199 = .ok (.aload 7, 2) := by decide +kernel
theorem dX8_order_201 : decode cX8_order 201 = .ok (.getfield 117, 3) := by decide +kernel
theorem dX8_order_204 : decode cX8_order 204 = .ok (.ireturn, 1) := by decide +kernel
theorem mcX8_order : x_mc yX8_order cX8_order 8 (some .int) 4 := ⟨wd_290, wd_1, by decide +kernel⟩
set_option maxHeartbeats 4000000 in
set_option maxRecDepth 100000 in
theorem kX8_order (l : Launch) (base : Nat) (D : va_G) (dA : Nat → ClassId) (F : Nat) (r0 : Option Nat) (x1 : Int32) (x2 : Int32) (x3 : Int32) (x4 : Int32) : x_Met l base D dA yX8_order cX8_order 8 (some .int) 4 88 [va_rf r0, .int x1, .int x2, .int x3, .int x4] (mX8_order F r0 x1 x2 x3 x4) (fun x => some (.int x)) := by
  refine x_Met.of [(0, .inr (.inl r0)), (1, .inl x1), (2, .inl x2), (3, .inl x3), (4, .inl x4)] (by decide) (Nat.le_of_ble_eq_true rfl) rfl rfl ?_
  intro p e R s m args below meth c σ a τ ls hfr hlo E hr hk hn S hM hl
  have E : x_E p s m args c cX8_order 8 "WireMoney" D dA := E
  unfold mX8_order at hM
  refine w_aload_n E hl 0 dX8_order_0 rfl ?_
  refine w_rR E S hM lk_8_12 rfl dX8_order_1 (fun v1 hM => ?_)
  refine w_iload_n E hl 1 dX8_order_4 rfl ?_
  refine w_cVq (rest := []) E S hl hM (kX3_findCounter l base D dA F v1 x1) mcX3_findCounter ⟨by decide, rfl, wd_153, wd_154, wd_155⟩ hfr hlo (by decide) rfl (Nat.le_of_ble_eq_true rfl) dX8_order_5 rfl (fun v5 σ H locs S hM => ?_)
  refine w_astore (lt' := [(5, .inr (.inl v5)), (0, .inr (.inl r0)), (1, .inl x1), (2, .inl x2), (3, .inl x3), (4, .inl x4)]) E hl dX8_order_8 (by decide) rfl (fun ls hl => ?_)
  refine w_aload_n E hl 1 dX8_order_10 rfl ?_
  refine w_rR E S hM lk_8_12 rfl dX8_order_11 (fun v11 hM => ?_)
  refine w_iload_n E hl 3 dX8_order_14 rfl ?_
  refine w_cVq (rest := []) E S hl hM (kX3_findCounter l base D dA F v11 x2) mcX3_findCounter ⟨by decide, rfl, wd_153, wd_154, wd_155⟩ hfr hlo (by decide) rfl (Nat.le_of_ble_eq_true rfl) dX8_order_15 rfl (fun v15 σ H locs S hM => ?_)
  refine w_astore (lt' := [(6, .inr (.inl v15)), (5, .inr (.inl v5)), (0, .inr (.inl r0)), (1, .inl x1), (2, .inl x2), (3, .inl x3), (4, .inl x4)]) E hl dX8_order_18 (by decide) rfl (fun ls hl => ?_)
  refine w_aload E hl 1 dX8_order_20 rfl ?_
  refine w_ifnull (tgt := 104) E hM dX8_order_22 (by decide) (fun c22 hM => ?_) (fun a22 c22 hM => ?_)
  · skip
    refine lv_iconst (v := (-1 : Int32)) E.1 E.2.1 dX8_order_104 (by decide) ?_
    exact w_iret E S hM hr hk dX8_order_105
  · skip
    refine w_aload E hl 0 dX8_order_25 rfl ?_
    refine w_ifnull (tgt := 104) E hM dX8_order_27 (by decide) (fun c27 hM => ?_) (fun a27 c27 hM => ?_)
    · skip
      refine lv_iconst (v := (-1 : Int32)) E.1 E.2.1 dX8_order_104 (by decide) ?_
      exact w_iret E S hM hr hk dX8_order_105
    · skip
      refine w_aload E hl 1 dX8_order_30 rfl ?_
      refine w_aload E hl 0 dX8_order_32 rfl ?_
      refine lv_acmp_eq (tgt := 104) E.1 E.2.1 dX8_order_34 (by decide) (fun c34 => ?_) (fun c34 => ?_)
      · replace hM := x_okT hM c34
        refine lv_iconst (v := (-1 : Int32)) E.1 E.2.1 dX8_order_104 (by decide) ?_
        exact w_iret E S hM hr hk dX8_order_105
      · replace hM := x_okF hM c34
        refine w_aload_n E hl 2 dX8_order_37 rfl ?_
        refine w_rR E S hM lk_8_12 rfl dX8_order_38 (fun v38 hM => ?_)
        refine w_aload E hl 1 dX8_order_41 rfl ?_
        refine w_aload E hl 0 dX8_order_43 rfl ?_
        refine w_cVi (rest := []) E S hl hM (kX3_hasWay l base D dA F v38 v5 v15) mcX3_hasWay ⟨by decide, rfl, wd_254, wd_255, wd_256⟩ hfr hlo (by decide) rfl (Nat.le_of_ble_eq_true rfl) dX8_order_45 rfl (fun v45 σ H locs S hM => ?_)
        refine lv_if_eq (tgt := 104) E.1 E.2.1 dX8_order_48 (by decide) (fun c48 => ?_) (fun c48 => ?_)
        · replace hM := x_okT hM c48
          refine lv_iconst (v := (-1 : Int32)) E.1 E.2.1 dX8_order_104 (by decide) ?_
          exact w_iret E S hM hr hk dX8_order_105
        · replace hM := x_okF hM c48
          refine w_iload_n E hl 5 dX8_order_51 rfl ?_
          refine lv_iconst (v := (1 : Int32)) E.1 E.2.1 dX8_order_52 (by decide) ?_
          refine w_ldc (v := (99999 : Int32)) E wd_267 dX8_order_53 ?_
          refine w_cSi (rest := []) E S hl hM (kX8_isWithin l base D dA F x3 (1 : Int32) (99999 : Int32)) mcX8_isWithin ⟨wd_115, wd_116⟩ hfr hlo (by decide) rfl (Nat.le_of_ble_eq_true rfl) dX8_order_55 rfl (fun v55 σ H locs S hM => ?_)
          refine lv_if_eq (tgt := 104) E.1 E.2.1 dX8_order_58 (by decide) (fun c58 => ?_) (fun c58 => ?_)
          · replace hM := x_okT hM c58
            refine lv_iconst (v := (-1 : Int32)) E.1 E.2.1 dX8_order_104 (by decide) ?_
            exact w_iret E S hM hr hk dX8_order_105
          · replace hM := x_okF hM c58
            refine w_iload E hl 6 dX8_order_61 rfl ?_
            refine lv_iconst (v := (0 : Int32)) E.1 E.2.1 dX8_order_63 (by decide) ?_
            refine lv_sipush (v := (9999 : Int32)) E.1 E.2.1 dX8_order_64 (by decide) ?_
            refine w_cSi (rest := []) E S hl hM (kX8_isWithin l base D dA F x4 (0 : Int32) (9999 : Int32)) mcX8_isWithin ⟨wd_115, wd_116⟩ hfr hlo (by decide) rfl (Nat.le_of_ble_eq_true rfl) dX8_order_67 rfl (fun v67 σ H locs S hM => ?_)
            refine lv_if_eq (tgt := 104) E.1 E.2.1 dX8_order_70 (by decide) (fun c70 => ?_) (fun c70 => ?_)
            · replace hM := x_okT hM c70
              refine lv_iconst (v := (-1 : Int32)) E.1 E.2.1 dX8_order_104 (by decide) ?_
              exact w_iret E S hM hr hk dX8_order_105
            · replace hM := x_okF hM c70
              refine w_aload E hl 1 dX8_order_73 rfl ?_
              refine w_aload_n E hl 2 dX8_order_75 rfl ?_
              refine w_rI E S hM lk_8_60 rfl dX8_order_76 (fun v76 hM => ?_)
              refine w_cVi (rest := []) E S hl hM (kX1_isOpen l base D dA F v5 v76) mcX1_isOpen ⟨by decide, rfl, wd_291, wd_292, wd_293⟩ hfr hlo (by decide) rfl (Nat.le_of_ble_eq_true rfl) dX8_order_79 rfl (fun v79 σ H locs S hM => ?_)
              refine lv_if_eq (tgt := 104) E.1 E.2.1 dX8_order_82 (by decide) (fun c82 => ?_) (fun c82 => ?_)
              · replace hM := x_okT hM c82
                refine lv_iconst (v := (-1 : Int32)) E.1 E.2.1 dX8_order_104 (by decide) ?_
                exact w_iret E S hM hr hk dX8_order_105
              · replace hM := x_okF hM c82
                refine w_aload_n E hl 2 dX8_order_85 rfl ?_
                refine w_rI E S hM lk_8_94 rfl dX8_order_86 (fun v86 hM => ?_)
                refine w_aload_n E hl 2 dX8_order_89 rfl ?_
                refine w_rR E S hM lk_8_25 rfl dX8_order_90 (fun v90 hM => ?_)
                refine w_aL E S hM (by decide) dX8_order_93 (fun v93 hM => ?_)
                refine lv_icmp_ge (tgt := 104) E.1 E.2.1 dX8_order_94 (by decide) (fun c94 => ?_) (fun c94 => ?_)
                · replace hM := x_okT hM c94
                  refine lv_iconst (v := (-1 : Int32)) E.1 E.2.1 dX8_order_104 (by decide) ?_
                  exact w_iret E S hM hr hk dX8_order_105
                · replace hM := x_okF hM c94
                  refine w_aload_n E hl 2 dX8_order_97 rfl ?_
                  refine w_cVi (rest := []) E S hl hM (kX8_canWrite l base D dA F r0) mcX8_canWrite ⟨by decide, rfl, wd_295, wd_297, wp_6⟩ hfr hlo (by decide) rfl (Nat.le_of_ble_eq_true rfl) dX8_order_98 rfl (fun v98 σ H locs S hM => ?_)
                  refine lv_if_ne (tgt := 106) E.1 E.2.1 dX8_order_101 (by decide) (fun c101 => ?_) (fun c101 => ?_)
                  · replace hM := x_okF hM c101
                    refine w_new E S hM ⟨by decide, wd_72⟩ dX8_order_106 (fun v106 σ H S hM => ?_)
                    refine lv_dup E.1 E.2.1 dX8_order_109 (x_cat _) ?_
                    refine w_aload_n E hl 2 dX8_order_110 rfl ?_
                    refine w_rI E S hM lk_8_94 rfl dX8_order_111 (fun v111 hM => ?_)
                    refine w_aload E hl 1 dX8_order_114 rfl ?_
                    refine w_aload E hl 0 dX8_order_116 rfl ?_
                    refine w_iload_n E hl 5 dX8_order_118 rfl ?_
                    refine w_iload E hl 6 dX8_order_119 rfl ?_
                    refine w_cI (rest := [va_rf (some v106)]) E S hl hM (kX4_init l base D dA F v106 v111 v5 v15 x3 x4) mcX4_init ⟨wd_300, wd_301, rfl⟩ (by rw [hfr, hlo]; decide) rfl (Nat.le_of_ble_eq_true rfl) dX8_order_121 rfl (fun σ H locs S hM => ?_)
                    refine w_astore (lt' := [(7, .inr (.inl (some v106))), (6, .inr (.inl v15)), (5, .inr (.inl v5)), (0, .inr (.inl r0)), (1, .inl x1), (2, .inl x2), (3, .inl x3), (4, .inl x4)]) E hl dX8_order_124 (by decide) rfl (fun ls hl => ?_)
                    refine w_aload E hl 0 dX8_order_126 rfl ?_
                    refine w_aload_n E hl 3 dX8_order_128 rfl ?_
                    refine w_rR E S hM lk_8_19 rfl dX8_order_129 (fun v129 hM => ?_)
                    refine w_iload_n E hl 6 dX8_order_132 rfl ?_
                    refine w_cVi (rest := [va_rf (some v106)]) E S hl hM (kX0_feeOf l base D dA F v129 x3) mcX0_feeOf ⟨by decide, rfl, wd_280, wd_281, wd_282⟩ hfr hlo (by decide) rfl (Nat.le_of_ble_eq_true rfl) dX8_order_133 rfl (fun v133 σ H locs S hM => ?_)
                    refine w_wI E S hM lk_8_104 rfl (Or.inl rfl) dX8_order_136 (fun σ H locs S hM => ?_)
                    refine w_aload_n E hl 3 dX8_order_139 rfl ?_
                    refine w_rR E S hM lk_8_25 rfl dX8_order_140 (fun v140 hM => ?_)
                    refine w_aload_n E hl 3 dX8_order_143 rfl ?_
                    refine w_rI E S hM lk_8_94 rfl dX8_order_144 (fun v144 hM => ?_)
                    refine w_aload E hl 0 dX8_order_147 rfl ?_
                    refine w_sQ E S hM ⟨by decide, by decide, by decide, rfl⟩ dX8_order_149 (fun σ H locs S hM => ?_)
                    refine w_aload_n E hl 3 dX8_order_150 rfl ?_
                    refine lv_dup E.1 E.2.1 dX8_order_151 (x_cat _) ?_
                    refine w_rI E S hM lk_8_94 rfl dX8_order_152 (fun v152 hM => ?_)
                    refine lv_iconst (v := (1 : Int32)) E.1 E.2.1 dX8_order_155 (by decide) ?_
                    refine lv_iadd E.1 E.2.1 dX8_order_156 ?_
                    refine w_wI E S hM lk_8_94 rfl (Or.inl rfl) dX8_order_157 (fun σ H locs S hM => ?_)
                    refine w_aload E hl 2 dX8_order_160 rfl ?_
                    refine lv_dup E.1 E.2.1 dX8_order_162 (x_cat _) ?_
                    refine w_rI E S hM lk_8_107 rfl dX8_order_163 (fun v163 hM => ?_)
                    refine w_iload_n E hl 6 dX8_order_166 rfl ?_
                    refine w_aload E hl 0 dX8_order_167 rfl ?_
                    refine w_rI E S hM lk_8_104 rfl dX8_order_169 (fun v169 hM => ?_)
                    refine lv_iadd E.1 E.2.1 dX8_order_172 ?_
                    refine lv_iadd E.1 E.2.1 dX8_order_173 ?_
                    refine w_wI E S hM lk_8_107 rfl (Or.inl rfl) dX8_order_174 (fun σ H locs S hM => ?_)
                    refine w_aload E hl 2 dX8_order_177 rfl ?_
                    refine lv_dup E.1 E.2.1 dX8_order_179 (x_cat _) ?_
                    refine w_rI E S hM lk_8_110 rfl dX8_order_180 (fun v180 hM => ?_)
                    refine w_aload E hl 0 dX8_order_183 rfl ?_
                    refine w_rI E S hM lk_8_104 rfl dX8_order_185 (fun v185 hM => ?_)
                    refine lv_iadd E.1 E.2.1 dX8_order_188 ?_
                    refine w_wI E S hM lk_8_110 rfl (Or.inl rfl) dX8_order_189 (fun σ H locs S hM => ?_)
                    refine w_aload_n E hl 3 dX8_order_192 rfl ?_
                    refine lv_iconst (v := (0 : Int32)) E.1 E.2.1 dX8_order_193 (by decide) ?_
                    refine w_aload E hl 0 dX8_order_194 rfl ?_
                    refine w_cVv (rest := []) E S hl hM (kX8_write l base D dA F r0 (0 : Int32) (some v106)) mcX8_write ⟨by decide, rfl, wd_358, wd_360, wp_7⟩ hfr hlo (by decide) rfl (Nat.le_of_ble_eq_true rfl) dX8_order_196 rfl (fun σ H locs S hM => ?_)
                    refine w_aload E hl 0 dX8_order_199 rfl ?_
                    refine w_rI E S hM lk_8_117 rfl dX8_order_201 (fun v201 hM => ?_)
                    exact w_iret E S hM hr hk dX8_order_204
                  · replace hM := x_okT hM c101
                    refine lv_iconst (v := (-1 : Int32)) E.1 E.2.1 dX8_order_104 (by decide) ?_
                    exact w_iret E S hM hr hk dX8_order_105
theorem dX8_findOrder_0 : decode cX8_findOrder 0 = .ok (.iload_n 1, 1) := by decide +kernel
theorem dX8_findOrder_1 : decode cX8_findOrder 1 = .ok (.ifCond .lt 29, 3) := by decide +kernel
theorem dX8_findOrder_4 : decode cX8_findOrder 4 = .ok (.iload_n 1, 1) := by decide +kernel
theorem dX8_findOrder_5 : decode cX8_findOrder 5 = .ok (.aload_n 0, 1) := by decide +kernel
theorem dX8_findOrder_6 : decode cX8_findOrder 6 = .ok (.getfield 94, 3) := by decide +kernel
theorem dX8_findOrder_9 : decode cX8_findOrder 9 = .ok (.if_icmp .ge 21, 3) := by decide +kernel
theorem dX8_findOrder_12 : decode cX8_findOrder 12 = .ok (.iload_n 1, 1) := by decide +kernel
theorem dX8_findOrder_13 : decode cX8_findOrder 13 = .ok (.aload_n 0, 1) := by decide +kernel
theorem dX8_findOrder_14 : decode cX8_findOrder 14 = .ok (.getfield 25, 3) := by decide +kernel
theorem dX8_findOrder_17 : decode cX8_findOrder 17 = .ok (.arraylength, 1) := by decide +kernel
theorem dX8_findOrder_18 : decode cX8_findOrder 18 = .ok (.if_icmp .ge 12, 3) := by decide +kernel
theorem dX8_findOrder_21 : decode cX8_findOrder 21 = .ok (.aload_n 0, 1) := by decide +kernel
theorem dX8_findOrder_22 : decode cX8_findOrder 22 = .ok (.getfield 25, 3) := by decide +kernel
theorem dX8_findOrder_25 : decode cX8_findOrder 25 = .ok (.iload_n 1, 1) := by decide +kernel
theorem dX8_findOrder_26 : decode cX8_findOrder 26 = .ok (.aaload, 1) := by decide +kernel
theorem dX8_findOrder_27 : decode cX8_findOrder 27 = .ok (.goto 4, 3) := by decide +kernel
theorem dX8_findOrder_30 : decode cX8_findOrder 30 = .ok (.aconst_null, 1) := by decide +kernel
theorem dX8_findOrder_31 : decode cX8_findOrder 31 = .ok (.areturn, 1) := by decide +kernel
theorem mcX8_findOrder : x_mc yX8_findOrder cX8_findOrder 2 (some (.object "WireMoney$Order")) 1 := ⟨wd_459, wd_1, by decide +kernel⟩
set_option maxHeartbeats 4000000 in
set_option maxRecDepth 100000 in
theorem kX8_findOrder (l : Launch) (base : Nat) (D : va_G) (dA : Nat → ClassId) (F : Nat) (r0 : Option Nat) (x1 : Int32) : x_Met l base D dA yX8_findOrder cX8_findOrder 2 (some (.object "WireMoney$Order")) 0 0 [va_rf r0, .int x1] (mX8_findOrder F r0 x1) (fun x => some (va_rf x)) := by
  refine x_Met.of [(0, .inr (.inl r0)), (1, .inl x1)] (by decide) (Nat.le_of_ble_eq_true rfl) rfl rfl ?_
  intro p e R s m args below meth c σ a τ ls hfr hlo E hr hk hn S hM hl
  have E : x_E p s m args c cX8_findOrder 2 "WireMoney" D dA := E
  unfold mX8_findOrder at hM
  refine w_iload_n E hl 1 dX8_findOrder_0 rfl ?_
  refine lv_if_lt (tgt := 30) E.1 E.2.1 dX8_findOrder_1 (by decide) (fun c1 => ?_) (fun c1 => ?_)
  · replace hM := x_okT hM c1
    refine w_null E dX8_findOrder_30 ?_
    exact w_aret E S hM hr hk dX8_findOrder_31
  · replace hM := x_okF hM c1
    refine w_iload_n E hl 1 dX8_findOrder_4 rfl ?_
    refine w_aload_n E hl 0 dX8_findOrder_5 rfl ?_
    refine w_rI E S hM lk_8_94 rfl dX8_findOrder_6 (fun v6 hM => ?_)
    refine lv_icmp_ge (tgt := 30) E.1 E.2.1 dX8_findOrder_9 (by decide) (fun c9 => ?_) (fun c9 => ?_)
    · replace hM := x_okT hM c9
      refine w_null E dX8_findOrder_30 ?_
      exact w_aret E S hM hr hk dX8_findOrder_31
    · replace hM := x_okF hM c9
      refine w_iload_n E hl 1 dX8_findOrder_12 rfl ?_
      refine w_aload_n E hl 0 dX8_findOrder_13 rfl ?_
      refine w_rR E S hM lk_8_25 rfl dX8_findOrder_14 (fun v14 hM => ?_)
      refine w_aL E S hM (by decide) dX8_findOrder_17 (fun v17 hM => ?_)
      refine lv_icmp_ge (tgt := 30) E.1 E.2.1 dX8_findOrder_18 (by decide) (fun c18 => ?_) (fun c18 => ?_)
      · replace hM := x_okT hM c18
        refine w_null E dX8_findOrder_30 ?_
        exact w_aret E S hM hr hk dX8_findOrder_31
      · replace hM := x_okF hM c18
        refine w_aload_n E hl 0 dX8_findOrder_21 rfl ?_
        refine w_rR E S hM lk_8_25 rfl dX8_findOrder_22 (fun v22 hM => ?_)
        refine w_iload_n E hl 1 dX8_findOrder_25 rfl ?_
        refine w_aQ E S hM (by decide) dX8_findOrder_26 (fun v26 hM => ?_)
        refine lv_goto (tgt := 31) E.1 E.2.1 dX8_findOrder_27 (by decide) ?_
        exact w_aret E S hM hr hk dX8_findOrder_31
theorem dX8_stop_0 : decode cX8_stop 0 = .ok (.aload_n 0, 1) := by decide +kernel
theorem dX8_stop_1 : decode cX8_stop 1 = .ok (.iload_n 1, 1) := by decide +kernel
theorem dX8_stop_2 : decode cX8_stop 2 = .ok (.invokevirtual 120, 3) := by decide +kernel
theorem dX8_stop_5 : decode cX8_stop 5 = .ok (.astore_n 2, 1) := by decide +kernel
theorem dX8_stop_6 : decode cX8_stop 6 = .ok (.aload_n 2, 1) := by decide +kernel
theorem dX8_stop_7 : decode cX8_stop 7 = .ok (.ifnull 35, 3) := by decide +kernel
theorem dX8_stop_10 : decode cX8_stop 10 = .ok (.aload_n 2, 1) := by decide +kernel
theorem dX8_stop_11 : decode cX8_stop 11 = .ok (.getfield 124, 3) := by decide +kernel
theorem dX8_stop_14 : decode cX8_stop 14 = .ok (.ifCond .ne 28, 3) := by decide +kernel
theorem dX8_stop_17 : decode cX8_stop 17 = .ok (.aload_n 0, 1) := by decide +kernel
theorem dX8_stop_18 : decode cX8_stop 18 = .ok (.getfield 12, 3) := by decide +kernel
theorem dX8_stop_21 : decode cX8_stop 21 = .ok (.aload_n 2, 1) := by decide +kernel
theorem dX8_stop_22 : decode cX8_stop 22 = .ok (.getfield 128, 3) := by decide +kernel
theorem dX8_stop_25 : decode cX8_stop 25 = .ok (.aload_n 2, 1) := by decide +kernel
theorem dX8_stop_26 : decode cX8_stop 26 = .ok (.getfield 132, 3) := by decide +kernel
theorem dX8_stop_29 : decode cX8_stop 29 = .ok (.invokevirtual 71, 3) := by decide +kernel
theorem dX8_stop_32 : decode cX8_stop 32 = .ok (.ifCond .eq 10, 3) := by decide +kernel
theorem dX8_stop_35 : decode cX8_stop 35 = .ok (.aload_n 0, 1) := by decide +kernel
theorem dX8_stop_36 : decode cX8_stop 36 = .ok (.invokevirtual 97, 3) := by decide +kernel
theorem dX8_stop_39 : decode cX8_stop 39 = .ok (.ifCond .ne 5, 3) := by decide +kernel
theorem dX8_stop_42 : decode cX8_stop 42 = .ok (.iconst (-1), 1) := by decide +kernel
theorem dX8_stop_43 : decode cX8_stop 43 = .ok (.ireturn, 1) := by decide +kernel
theorem dX8_stop_44 : decode cX8_stop 44 = .ok (.aload_n 0, 1) := by decide +kernel
theorem dX8_stop_45 : decode cX8_stop 45 = .ok (.getfield 135, 3) := by decide +kernel
theorem dX8_stop_48 : decode cX8_stop 48 = .ok (.istore_n 3, 1) := by decide +kernel
theorem dX8_stop_49 : decode cX8_stop 49 = .ok (.aload_n 2, 1) := by decide +kernel
theorem dX8_stop_50 : decode cX8_stop 50 = .ok (.iconst 1, 1) := by decide +kernel
theorem dX8_stop_51 : decode cX8_stop 51 = .ok (.putfield 124, 3) := by decide +kernel
theorem dX8_stop_54 : decode cX8_stop 54 = .ok (.aload_n 0, 1) := by decide +kernel
theorem dX8_stop_55 : decode cX8_stop 55 = .ok (.iconst 1, 1) := by decide +kernel
theorem dX8_stop_56 : decode cX8_stop 56 = .ok (.aload_n 2, 1) := by decide +kernel
theorem dX8_stop_57 : decode cX8_stop 57 = .ok (.invokevirtual 113, 3) := by decide +kernel
theorem dX8_stop_60 : decode cX8_stop 60 = .ok (.iload_n 3, 1) := by decide +kernel
theorem dX8_stop_61 : decode cX8_stop 61 = .ok (.ireturn, 1) := by decide +kernel
theorem mcX8_stop : x_mc yX8_stop cX8_stop 4 (some .int) 1 := ⟨wd_455, wd_1, by decide +kernel⟩
set_option maxHeartbeats 4000000 in
set_option maxRecDepth 100000 in
theorem kX8_stop (l : Launch) (base : Nat) (D : va_G) (dA : Nat → ClassId) (F : Nat) (r0 : Option Nat) (x1 : Int32) : x_Met l base D dA yX8_stop cX8_stop 4 (some .int) 4 88 [va_rf r0, .int x1] (mX8_stop F r0 x1) (fun x => some (.int x)) := by
  refine x_Met.of [(0, .inr (.inl r0)), (1, .inl x1)] (by decide) (Nat.le_of_ble_eq_true rfl) rfl rfl ?_
  intro p e R s m args below meth c σ a τ ls hfr hlo E hr hk hn S hM hl
  have E : x_E p s m args c cX8_stop 4 "WireMoney" D dA := E
  unfold mX8_stop at hM
  refine w_aload_n E hl 0 dX8_stop_0 rfl ?_
  refine w_iload_n E hl 1 dX8_stop_1 rfl ?_
  refine w_cVq (rest := []) E S hl hM (kX8_findOrder l base D dA F r0 x1) mcX8_findOrder ⟨by decide, rfl, wd_456, wd_458, wp_9⟩ hfr hlo (by decide) rfl (Nat.le_of_ble_eq_true rfl) dX8_stop_2 rfl (fun v2 σ H locs S hM => ?_)
  refine w_astore_n (lt' := [(2, .inr (.inl v2)), (0, .inr (.inl r0)), (1, .inl x1)]) E hl dX8_stop_5 (by decide) rfl (fun ls hl => ?_)
  refine w_aload_n E hl 0 dX8_stop_6 rfl ?_
  refine w_ifnull (tgt := 42) E hM dX8_stop_7 (by decide) (fun c7 hM => ?_) (fun a7 c7 hM => ?_)
  · skip
    refine lv_iconst (v := (-1 : Int32)) E.1 E.2.1 dX8_stop_42 (by decide) ?_
    exact w_iret E S hM hr hk dX8_stop_43
  · skip
    refine w_aload_n E hl 0 dX8_stop_10 rfl ?_
    refine w_rI E S hM lk_8_124 rfl dX8_stop_11 (fun v11 hM => ?_)
    refine lv_if_ne (tgt := 42) E.1 E.2.1 dX8_stop_14 (by decide) (fun c14 => ?_) (fun c14 => ?_)
    · replace hM := x_okF hM c14
      refine lv_iconst (v := (-1 : Int32)) E.1 E.2.1 dX8_stop_42 (by decide) ?_
      exact w_iret E S hM hr hk dX8_stop_43
    · replace hM := x_okT hM c14
      refine w_aload_n E hl 1 dX8_stop_17 rfl ?_
      refine w_rR E S hM lk_8_12 rfl dX8_stop_18 (fun v18 hM => ?_)
      refine w_aload_n E hl 0 dX8_stop_21 rfl ?_
      refine w_rR E S hM lk_8_128 rfl dX8_stop_22 (fun v22 hM => ?_)
      refine w_aload_n E hl 0 dX8_stop_25 rfl ?_
      refine w_rR E S hM lk_8_132 rfl dX8_stop_26 (fun v26 hM => ?_)
      refine w_cVi (rest := []) E S hl hM (kX3_hasWay l base D dA F v18 v22 v26) mcX3_hasWay ⟨by decide, rfl, wd_254, wd_255, wd_256⟩ hfr hlo (by decide) rfl (Nat.le_of_ble_eq_true rfl) dX8_stop_29 rfl (fun v29 σ H locs S hM => ?_)
      refine lv_if_eq (tgt := 42) E.1 E.2.1 dX8_stop_32 (by decide) (fun c32 => ?_) (fun c32 => ?_)
      · replace hM := x_okT hM c32
        refine lv_iconst (v := (-1 : Int32)) E.1 E.2.1 dX8_stop_42 (by decide) ?_
        exact w_iret E S hM hr hk dX8_stop_43
      · replace hM := x_okF hM c32
        refine w_aload_n E hl 1 dX8_stop_35 rfl ?_
        refine w_cVi (rest := []) E S hl hM (kX8_canWrite l base D dA F r0) mcX8_canWrite ⟨by decide, rfl, wd_295, wd_297, wp_6⟩ hfr hlo (by decide) rfl (Nat.le_of_ble_eq_true rfl) dX8_stop_36 rfl (fun v36 σ H locs S hM => ?_)
        refine lv_if_ne (tgt := 44) E.1 E.2.1 dX8_stop_39 (by decide) (fun c39 => ?_) (fun c39 => ?_)
        · replace hM := x_okF hM c39
          refine w_aload_n E hl 1 dX8_stop_44 rfl ?_
          refine w_rI E S hM lk_8_135 rfl dX8_stop_45 (fun v45 hM => ?_)
          refine w_istore_n (lt' := [(3, .inl v45), (2, .inr (.inl v2)), (0, .inr (.inl r0)), (1, .inl x1)]) E hl dX8_stop_48 (by decide) rfl (fun ls hl => ?_)
          refine w_aload_n E hl 1 dX8_stop_49 rfl ?_
          refine lv_iconst (v := (1 : Int32)) E.1 E.2.1 dX8_stop_50 (by decide) ?_
          refine w_wZ E S hM lk_8_124 rfl (Or.inl rfl) dX8_stop_51 (fun σ H locs S hM => ?_)
          refine w_aload_n E hl 2 dX8_stop_54 rfl ?_
          refine lv_iconst (v := (1 : Int32)) E.1 E.2.1 dX8_stop_55 (by decide) ?_
          refine w_aload_n E hl 1 dX8_stop_56 rfl ?_
          refine w_cVv (rest := []) E S hl hM (kX8_write l base D dA F r0 (1 : Int32) v2) mcX8_write ⟨by decide, rfl, wd_358, wd_360, wp_7⟩ hfr hlo (by decide) rfl (Nat.le_of_ble_eq_true rfl) dX8_stop_57 rfl (fun σ H locs S hM => ?_)
          refine w_iload_n E hl 0 dX8_stop_60 rfl ?_
          exact w_iret E S hM hr hk dX8_stop_61
        · replace hM := x_okT hM c39
          refine lv_iconst (v := (-1 : Int32)) E.1 E.2.1 dX8_stop_42 (by decide) ?_
          exact w_iret E S hM hr hk dX8_stop_43
theorem dX8_owe_0 : decode cX8_owe 0 = .ok (.aload_n 0, 1) := by decide +kernel
theorem dX8_owe_1 : decode cX8_owe 1 = .ok (.dup, 1) := by decide +kernel
theorem dX8_owe_2 : decode cX8_owe 2 = .ok (.getfield 235, 3) := by decide +kernel
theorem dX8_owe_5 : decode cX8_owe 5 = .ok (.iload_n 2, 1) := by decide +kernel
theorem dX8_owe_6 : decode cX8_owe 6 = .ok (.isub, 1) := by decide +kernel
theorem dX8_owe_7 : decode cX8_owe 7 = .ok (.putfield 235, 3) := by decide +kernel
theorem dX8_owe_10 : decode cX8_owe 10 = .ok (.aload_n 1, 1) := by decide +kernel
theorem dX8_owe_11 : decode cX8_owe 11 = .ok (.dup, 1) := by decide +kernel
theorem dX8_owe_12 : decode cX8_owe 12 = .ok (.getfield 235, 3) := by decide +kernel
theorem dX8_owe_15 : decode cX8_owe 15 = .ok (.iload_n 2, 1) := by decide +kernel
theorem dX8_owe_16 : decode cX8_owe 16 = .ok (.iadd, 1) := by decide +kernel
theorem dX8_owe_17 : decode cX8_owe 17 = .ok (.putfield 235, 3) := by decide +kernel
theorem dX8_owe_20 : decode cX8_owe 20 = .ok (.return_, 1) := by decide +kernel
theorem mcX8_owe : x_mc yX8_owe cX8_owe 3 none 3 := ⟨wd_470, wd_1, by decide +kernel⟩
set_option maxHeartbeats 4000000 in
set_option maxRecDepth 100000 in
theorem kX8_owe (l : Launch) (base : Nat) (D : va_G) (dA : Nat → ClassId) (F : Nat) (r0 : Option Nat) (r1 : Option Nat) (x2 : Int32) : x_Met l base D dA yX8_owe cX8_owe 3 none 0 0 [va_rf r0, va_rf r1, .int x2] (mX8_owe F r0 r1 x2) (fun _ => none) := by
  refine x_Met.of [(0, .inr (.inl r0)), (1, .inr (.inl r1)), (2, .inl x2)] (by decide) (Nat.le_of_ble_eq_true rfl) rfl rfl ?_
  intro p e R s m args below meth c σ a τ ls hfr hlo E hr hk hn S hM hl
  have E : x_E p s m args c cX8_owe 3 "WireMoney" D dA := E
  unfold mX8_owe at hM
  refine w_aload_n E hl 0 dX8_owe_0 rfl ?_
  refine lv_dup E.1 E.2.1 dX8_owe_1 (x_cat _) ?_
  refine w_rI E S hM lk_8_235 rfl dX8_owe_2 (fun v2 hM => ?_)
  refine w_iload_n E hl 2 dX8_owe_5 rfl ?_
  refine lv_isub E.1 E.2.1 dX8_owe_6 ?_
  refine w_wI E S hM lk_8_235 rfl (Or.inl rfl) dX8_owe_7 (fun σ H locs S hM => ?_)
  refine w_aload_n E hl 1 dX8_owe_10 rfl ?_
  refine lv_dup E.1 E.2.1 dX8_owe_11 (x_cat _) ?_
  refine w_rI E S hM lk_8_235 rfl dX8_owe_12 (fun v12 hM => ?_)
  refine w_iload_n E hl 2 dX8_owe_15 rfl ?_
  refine lv_iadd E.1 E.2.1 dX8_owe_16 ?_
  refine w_wI E S hM lk_8_235 rfl (Or.inl rfl) dX8_owe_17 (fun σ H locs S hM => ?_)
  exact w_vret E S hM hr hk dX8_owe_20
theorem dX8_payOut_0 : decode cX8_payOut 0 = .ok (.aload_n 1, 1) := by decide +kernel
theorem dX8_payOut_1 : decode cX8_payOut 1 = .ok (.iconst 1, 1) := by decide +kernel
theorem dX8_payOut_2 : decode cX8_payOut 2 = .ok (.putfield 141, 3) := by decide +kernel
theorem dX8_payOut_5 : decode cX8_payOut 5 = .ok (.aload_n 1, 1) := by decide +kernel
theorem dX8_payOut_6 : decode cX8_payOut 6 = .ok (.aload_n 0, 1) := by decide +kernel
theorem dX8_payOut_7 : decode cX8_payOut 7 = .ok (.getfield 60, 3) := by decide +kernel
theorem dX8_payOut_10 : decode cX8_payOut 10 = .ok (.putfield 221, 3) := by decide +kernel
theorem dX8_payOut_13 : decode cX8_payOut 13 = .ok (.aload_n 1, 1) := by decide +kernel
theorem dX8_payOut_14 : decode cX8_payOut 14 = .ok (.getfield 132, 3) := by decide +kernel
theorem dX8_payOut_17 : decode cX8_payOut 17 = .ok (.dup, 1) := by decide +kernel
theorem dX8_payOut_18 : decode cX8_payOut 18 = .ok (.getfield 107, 3) := by decide +kernel
theorem dX8_payOut_21 : decode cX8_payOut 21 = .ok (.aload_n 1, 1) := by decide +kernel
theorem dX8_payOut_22 : decode cX8_payOut 22 = .ok (.getfield 150, 3) := by decide +kernel
theorem dX8_payOut_25 : decode cX8_payOut 25 = .ok (.isub, 1) := by decide +kernel
theorem dX8_payOut_26 : decode cX8_payOut 26 = .ok (.putfield 107, 3) := by decide +kernel
theorem dX8_payOut_29 : decode cX8_payOut 29 = .ok (.aload_n 1, 1) := by decide +kernel
theorem dX8_payOut_30 : decode cX8_payOut 30 = .ok (.getfield 128, 3) := by decide +kernel
theorem dX8_payOut_33 : decode cX8_payOut 33 = .ok (.aload_n 1, 1) := by decide +kernel
theorem dX8_payOut_34 : decode cX8_payOut 34 = .ok (.getfield 132, 3) := by decide +kernel
theorem dX8_payOut_37 : decode cX8_payOut 37 = .ok (.aload_n 1, 1) := by decide +kernel
theorem dX8_payOut_38 : decode cX8_payOut 38 = .ok (.getfield 150, 3) := by decide +kernel
theorem dX8_payOut_41 : decode cX8_payOut 41 = .ok (.invokestatic 157, 3) := by decide +kernel
theorem dX8_payOut_44 : decode cX8_payOut 44 = .ok (.aload_n 0, 1) := by decide +kernel
theorem dX8_payOut_45 : decode cX8_payOut 45 = .ok (.dup, 1) := by decide +kernel
theorem dX8_payOut_46 : decode cX8_payOut 46 = .ok (.getfield 250, 3) := by decide +kernel
theorem dX8_payOut_49 : decode cX8_payOut 49 = .ok (.iconst 1, 1) := by decide +kernel
theorem dX8_payOut_50 : decode cX8_payOut 50 = .ok (.iadd, 1) := by decide +kernel
theorem dX8_payOut_51 : decode cX8_payOut 51 = .ok (.putfield 250, 3) := by decide +kernel
theorem dX8_payOut_54 : decode cX8_payOut 54 = .ok (.return_, 1) := by decide +kernel
theorem mcX8_payOut : x_mc yX8_payOut cX8_payOut 2 none 1 := ⟨wd_467, wd_1, by decide +kernel⟩
set_option maxHeartbeats 4000000 in
set_option maxRecDepth 100000 in
theorem kX8_payOut (l : Launch) (base : Nat) (D : va_G) (dA : Nat → ClassId) (F : Nat) (r0 : Option Nat) (r1 : Option Nat) : x_Met l base D dA yX8_payOut cX8_payOut 2 none 1 22 [va_rf r0, va_rf r1] (mX8_payOut F r0 r1) (fun _ => none) := by
  refine x_Met.of [(0, .inr (.inl r0)), (1, .inr (.inl r1))] (by decide) (Nat.le_of_ble_eq_true rfl) rfl rfl ?_
  intro p e R s m args below meth c σ a τ ls hfr hlo E hr hk hn S hM hl
  have E : x_E p s m args c cX8_payOut 2 "WireMoney" D dA := E
  unfold mX8_payOut at hM
  refine w_aload_n E hl 1 dX8_payOut_0 rfl ?_
  refine lv_iconst (v := (1 : Int32)) E.1 E.2.1 dX8_payOut_1 (by decide) ?_
  refine w_wZ E S hM lk_8_141 rfl (Or.inl rfl) dX8_payOut_2 (fun σ H locs S hM => ?_)
  refine w_aload_n E hl 1 dX8_payOut_5 rfl ?_
  refine w_aload_n E hl 0 dX8_payOut_6 rfl ?_
  refine w_rI E S hM lk_8_60 rfl dX8_payOut_7 (fun v7 hM => ?_)
  refine w_wI E S hM lk_8_221 rfl (Or.inl rfl) dX8_payOut_10 (fun σ H locs S hM => ?_)
  refine w_aload_n E hl 1 dX8_payOut_13 rfl ?_
  refine w_rR E S hM lk_8_132 rfl dX8_payOut_14 (fun v14 hM => ?_)
  refine lv_dup E.1 E.2.1 dX8_payOut_17 (x_cat _) ?_
  refine w_rI E S hM lk_8_107 rfl dX8_payOut_18 (fun v18 hM => ?_)
  refine w_aload_n E hl 1 dX8_payOut_21 rfl ?_
  refine w_rI E S hM lk_8_150 rfl dX8_payOut_22 (fun v22 hM => ?_)
  refine lv_isub E.1 E.2.1 dX8_payOut_25 ?_
  refine w_wI E S hM lk_8_107 rfl (Or.inl rfl) dX8_payOut_26 (fun σ H locs S hM => ?_)
  refine w_aload_n E hl 1 dX8_payOut_29 rfl ?_
  refine w_rR E S hM lk_8_128 rfl dX8_payOut_30 (fun v30 hM => ?_)
  refine w_aload_n E hl 1 dX8_payOut_33 rfl ?_
  refine w_rR E S hM lk_8_132 rfl dX8_payOut_34 (fun v34 hM => ?_)
  refine w_aload_n E hl 1 dX8_payOut_37 rfl ?_
  refine w_rI E S hM lk_8_150 rfl dX8_payOut_38 (fun v38 hM => ?_)
  refine w_cSv (rest := []) E S hl hM (kX8_owe l base D dA F v30 v34 v38) mcX8_owe ⟨wd_468, wd_469⟩ hfr hlo (by decide) rfl (Nat.le_of_ble_eq_true rfl) dX8_payOut_41 rfl (fun σ H locs S hM => ?_)
  refine w_aload_n E hl 0 dX8_payOut_44 rfl ?_
  refine lv_dup E.1 E.2.1 dX8_payOut_45 (x_cat _) ?_
  refine w_rI E S hM lk_8_250 rfl dX8_payOut_46 (fun v46 hM => ?_)
  refine lv_iconst (v := (1 : Int32)) E.1 E.2.1 dX8_payOut_49 (by decide) ?_
  refine lv_iadd E.1 E.2.1 dX8_payOut_50 ?_
  refine w_wI E S hM lk_8_250 rfl (Or.inl rfl) dX8_payOut_51 (fun σ H locs S hM => ?_)
  exact w_vret E S hM hr hk dX8_payOut_54
theorem dX8_pay_0 : decode cX8_pay 0 = .ok (.aload_n 0, 1) := by decide +kernel
theorem dX8_pay_1 : decode cX8_pay 1 = .ok (.iload_n 1, 1) := by decide +kernel
theorem dX8_pay_2 : decode cX8_pay 2 = .ok (.invokevirtual 120, 3) := by decide +kernel
theorem dX8_pay_5 : decode cX8_pay 5 = .ok (.astore_n 3, 1) := by decide +kernel
theorem dX8_pay_6 : decode cX8_pay 6 = .ok (.aload_n 3, 1) := by decide +kernel
theorem dX8_pay_7 : decode cX8_pay 7 = .ok (.ifnull 10, 3) := by decide +kernel
theorem dX8_pay_10 : decode cX8_pay 10 = .ok (.aload_n 3, 1) := by decide +kernel
theorem dX8_pay_11 : decode cX8_pay 11 = .ok (.getfield 138, 3) := by decide +kernel
theorem dX8_pay_14 : decode cX8_pay 14 = .ok (.ifCond .ne 5, 3) := by decide +kernel
theorem dX8_pay_17 : decode cX8_pay 17 = .ok (.iconst 1, 1) := by decide +kernel
theorem dX8_pay_18 : decode cX8_pay 18 = .ok (.ireturn, 1) := by decide +kernel
theorem dX8_pay_19 : decode cX8_pay 19 = .ok (.aload_n 3, 1) := by decide +kernel
theorem dX8_pay_20 : decode cX8_pay 20 = .ok (.getfield 141, 3) := by decide +kernel
theorem dX8_pay_23 : decode cX8_pay 23 = .ok (.ifCond .eq 5, 3) := by decide +kernel
theorem dX8_pay_26 : decode cX8_pay 26 = .ok (.iconst 2, 1) := by decide +kernel
theorem dX8_pay_27 : decode cX8_pay 27 = .ok (.ireturn, 1) := by decide +kernel
theorem dX8_pay_28 : decode cX8_pay 28 = .ok (.aload_n 3, 1) := by decide +kernel
theorem dX8_pay_29 : decode cX8_pay 29 = .ok (.getfield 144, 3) := by decide +kernel
theorem dX8_pay_32 : decode cX8_pay 32 = .ok (.ifCond .eq 5, 3) := by decide +kernel
theorem dX8_pay_35 : decode cX8_pay 35 = .ok (.iconst 3, 1) := by decide +kernel
theorem dX8_pay_36 : decode cX8_pay 36 = .ok (.ireturn, 1) := by decide +kernel
theorem dX8_pay_37 : decode cX8_pay 37 = .ok (.aload_n 3, 1) := by decide +kernel
theorem dX8_pay_38 : decode cX8_pay 38 = .ok (.getfield 132, 3) := by decide +kernel
theorem dX8_pay_41 : decode cX8_pay 41 = .ok (.aload_n 0, 1) := by decide +kernel
theorem dX8_pay_42 : decode cX8_pay 42 = .ok (.getfield 60, 3) := by decide +kernel
theorem dX8_pay_45 : decode cX8_pay 45 = .ok (.invokevirtual 88, 3) := by decide +kernel
theorem dX8_pay_48 : decode cX8_pay 48 = .ok (.ifCond .ne 5, 3) := by decide +kernel
theorem dX8_pay_51 : decode cX8_pay 51 = .ok (.iconst 4, 1) := by decide +kernel
theorem dX8_pay_52 : decode cX8_pay 52 = .ok (.ireturn, 1) := by decide +kernel
theorem dX8_pay_53 : decode cX8_pay 53 = .ok (.aload_n 3, 1) := by decide +kernel
theorem dX8_pay_54 : decode cX8_pay 54 = .ok (.getfield 147, 3) := by decide +kernel
theorem dX8_pay_57 : decode cX8_pay 57 = .ok (.iload_n 2, 1) := by decide +kernel
theorem dX8_pay_58 : decode cX8_pay 58 = .ok (.if_icmp .eq 5, 3) := by decide +kernel
theorem dX8_pay_61 : decode cX8_pay 61 = .ok (.iconst 5, 1) := by decide +kernel
theorem dX8_pay_62 : decode cX8_pay 62 = .ok (.ireturn, 1) := by decide +kernel
theorem dX8_pay_63 : decode cX8_pay 63 = .ok (.aload_n 3, 1) := by decide +kernel
theorem dX8_pay_64 : decode cX8_pay 64 = .ok (.getfield 132, 3) := by decide +kernel
theorem dX8_pay_67 : decode cX8_pay 67 = .ok (.getfield 107, 3) := by decide +kernel
theorem dX8_pay_70 : decode cX8_pay 70 = .ok (.aload_n 3, 1) := by decide +kernel
theorem dX8_pay_71 : decode cX8_pay 71 = .ok (.getfield 150, 3) := by decide +kernel
theorem dX8_pay_74 : decode cX8_pay 74 = .ok (.if_icmp .ge 6, 3) := by decide +kernel
theorem dX8_pay_77 : decode cX8_pay 77 = .ok (.bipush 6, 2) := by decide +kernel
theorem dX8_pay_79 : decode cX8_pay 79 = .ok (.ireturn, 1) := by decide +kernel
theorem dX8_pay_80 : decode cX8_pay 80 = .ok (.aload_n 0, 1) := by decide +kernel
theorem dX8_pay_81 : decode cX8_pay 81 = .ok (.aload_n 3, 1) := by decide +kernel
theorem dX8_pay_82 : decode cX8_pay 82 = .ok (.invokevirtual 153, 3) := by decide +kernel
theorem dX8_pay_85 : decode cX8_pay 85 = .ok (.iconst 0, 1) := by decide +kernel
theorem dX8_pay_86 : decode cX8_pay 86 = .ok (.ireturn, 1) := by decide +kernel
theorem mcX8_pay : x_mc yX8_pay cX8_pay 4 (some .int) 2 := ⟨wd_463, wd_1, by decide +kernel⟩
set_option maxHeartbeats 4000000 in
set_option maxRecDepth 100000 in
theorem kX8_pay (l : Launch) (base : Nat) (D : va_G) (dA : Nat → ClassId) (F : Nat) (r0 : Option Nat) (x1 : Int32) (x2 : Int32) : x_Met l base D dA yX8_pay cX8_pay 4 (some .int) 2 43 [va_rf r0, .int x1, .int x2] (mX8_pay F r0 x1 x2) (fun x => some (.int x)) := by
  refine x_Met.of [(0, .inr (.inl r0)), (1, .inl x1), (2, .inl x2)] (by decide) (Nat.le_of_ble_eq_true rfl) rfl rfl ?_
  intro p e R s m args below meth c σ a τ ls hfr hlo E hr hk hn S hM hl
  have E : x_E p s m args c cX8_pay 4 "WireMoney" D dA := E
  unfold mX8_pay at hM
  refine w_aload_n E hl 0 dX8_pay_0 rfl ?_
  refine w_iload_n E hl 1 dX8_pay_1 rfl ?_
  refine w_cVq (rest := []) E S hl hM (kX8_findOrder l base D dA F r0 x1) mcX8_findOrder ⟨by decide, rfl, wd_456, wd_458, wp_9⟩ hfr hlo (by decide) rfl (Nat.le_of_ble_eq_true rfl) dX8_pay_2 rfl (fun v2 σ H locs S hM => ?_)
  refine w_astore_n (lt' := [(3, .inr (.inl v2)), (0, .inr (.inl r0)), (1, .inl x1), (2, .inl x2)]) E hl dX8_pay_5 (by decide) rfl (fun ls hl => ?_)
  refine w_aload_n E hl 0 dX8_pay_6 rfl ?_
  refine w_ifnull (tgt := 17) E hM dX8_pay_7 (by decide) (fun c7 hM => ?_) (fun a7 c7 hM => ?_)
  · skip
    refine lv_iconst (v := (1 : Int32)) E.1 E.2.1 dX8_pay_17 (by decide) ?_
    exact w_iret E S hM hr hk dX8_pay_18
  · skip
    refine w_aload_n E hl 0 dX8_pay_10 rfl ?_
    refine w_rI E S hM lk_8_138 rfl dX8_pay_11 (fun v11 hM => ?_)
    refine lv_if_ne (tgt := 19) E.1 E.2.1 dX8_pay_14 (by decide) (fun c14 => ?_) (fun c14 => ?_)
    · replace hM := x_okF hM c14
      refine w_aload_n E hl 0 dX8_pay_19 rfl ?_
      refine w_rI E S hM lk_8_141 rfl dX8_pay_20 (fun v20 hM => ?_)
      refine lv_if_eq (tgt := 28) E.1 E.2.1 dX8_pay_23 (by decide) (fun c23 => ?_) (fun c23 => ?_)
      · replace hM := x_okT hM c23
        refine w_aload_n E hl 0 dX8_pay_28 rfl ?_
        refine w_rI E S hM lk_8_144 rfl dX8_pay_29 (fun v29 hM => ?_)
        refine lv_if_eq (tgt := 37) E.1 E.2.1 dX8_pay_32 (by decide) (fun c32 => ?_) (fun c32 => ?_)
        · replace hM := x_okT hM c32
          refine w_aload_n E hl 0 dX8_pay_37 rfl ?_
          refine w_rR E S hM lk_8_132 rfl dX8_pay_38 (fun v38 hM => ?_)
          refine w_aload_n E hl 1 dX8_pay_41 rfl ?_
          refine w_rI E S hM lk_8_60 rfl dX8_pay_42 (fun v42 hM => ?_)
          refine w_cVi (rest := []) E S hl hM (kX1_isOpen l base D dA F v38 v42) mcX1_isOpen ⟨by decide, rfl, wd_291, wd_292, wd_293⟩ hfr hlo (by decide) rfl (Nat.le_of_ble_eq_true rfl) dX8_pay_45 rfl (fun v45 σ H locs S hM => ?_)
          refine lv_if_ne (tgt := 53) E.1 E.2.1 dX8_pay_48 (by decide) (fun c48 => ?_) (fun c48 => ?_)
          · replace hM := x_okF hM c48
            refine w_aload_n E hl 0 dX8_pay_53 rfl ?_
            refine w_rI E S hM lk_8_147 rfl dX8_pay_54 (fun v54 hM => ?_)
            refine w_iload_n E hl 3 dX8_pay_57 rfl ?_
            refine lv_icmp_eq (tgt := 63) E.1 E.2.1 dX8_pay_58 (by decide) (fun c58 => ?_) (fun c58 => ?_)
            · replace hM := x_okT hM c58
              refine w_aload_n E hl 0 dX8_pay_63 rfl ?_
              refine w_rR E S hM lk_8_132 rfl dX8_pay_64 (fun v64 hM => ?_)
              refine w_rI E S hM lk_8_107 rfl dX8_pay_67 (fun v67 hM => ?_)
              refine w_aload_n E hl 0 dX8_pay_70 rfl ?_
              refine w_rI E S hM lk_8_150 rfl dX8_pay_71 (fun v71 hM => ?_)
              refine lv_icmp_ge (tgt := 80) E.1 E.2.1 dX8_pay_74 (by decide) (fun c74 => ?_) (fun c74 => ?_)
              · replace hM := x_okT hM c74
                refine w_aload_n E hl 1 dX8_pay_80 rfl ?_
                refine w_aload_n E hl 0 dX8_pay_81 rfl ?_
                refine w_cVv (rest := []) E S hl hM (kX8_payOut l base D dA F r0 v2) mcX8_payOut ⟨by decide, rfl, wd_464, wd_466, wp_10⟩ hfr hlo (by decide) rfl (Nat.le_of_ble_eq_true rfl) dX8_pay_82 rfl (fun σ H locs S hM => ?_)
                refine lv_iconst (v := (0 : Int32)) E.1 E.2.1 dX8_pay_85 (by decide) ?_
                exact w_iret E S hM hr hk dX8_pay_86
              · replace hM := x_okF hM c74
                refine lv_bipush (v := (6 : Int32)) E.1 E.2.1 dX8_pay_77 (by decide) ?_
                exact w_iret E S hM hr hk dX8_pay_79
            · replace hM := x_okF hM c58
              refine lv_iconst (v := (5 : Int32)) E.1 E.2.1 dX8_pay_61 (by decide) ?_
              exact w_iret E S hM hr hk dX8_pay_62
          · replace hM := x_okT hM c48
            refine lv_iconst (v := (4 : Int32)) E.1 E.2.1 dX8_pay_51 (by decide) ?_
            exact w_iret E S hM hr hk dX8_pay_52
        · replace hM := x_okF hM c32
          refine lv_iconst (v := (3 : Int32)) E.1 E.2.1 dX8_pay_35 (by decide) ?_
          exact w_iret E S hM hr hk dX8_pay_36
      · replace hM := x_okF hM c23
        refine lv_iconst (v := (2 : Int32)) E.1 E.2.1 dX8_pay_26 (by decide) ?_
        exact w_iret E S hM hr hk dX8_pay_27
    · replace hM := x_okT hM c14
      refine lv_iconst (v := (1 : Int32)) E.1 E.2.1 dX8_pay_17 (by decide) ?_
      exact w_iret E S hM hr hk dX8_pay_18
theorem dX8_cart_0 : decode cX8_cart 0 = .ok (.aload_n 0, 1) := by decide +kernel
theorem dX8_cart_1 : decode cX8_cart 1 = .ok (.getfield 12, 3) := by decide +kernel
theorem dX8_cart_4 : decode cX8_cart 4 = .ok (.iload_n 1, 1) := by decide +kernel
theorem dX8_cart_5 : decode cX8_cart 5 = .ok (.invokevirtual 48, 3) := by decide +kernel
theorem dX8_cart_8 : decode cX8_cart 8 = .ok (.astore 4, 2) := by decide +kernel
theorem dX8_cart_10 : decode cX8_cart 10 = .ok (.aload_n 0, 1) := by decide +kernel
theorem dX8_cart_11 : decode cX8_cart 11 = .ok (.getfield 12, 3) := by decide +kernel
theorem dX8_cart_14 : decode cX8_cart 14 = .ok (.iload_n 2, 1) := by decide +kernel
theorem dX8_cart_15 : decode cX8_cart 15 = .ok (.invokevirtual 48, 3) := by decide +kernel
theorem dX8_cart_18 : decode cX8_cart 18 = .ok (.astore 5, 2) := by decide +kernel
theorem dX8_cart_20 : decode cX8_cart 20 = .ok (.aload 4, 2) := by decide +kernel
theorem dX8_cart_22 : decode cX8_cart 22 = .ok (.ifnull 28, 3) := by decide +kernel
theorem dX8_cart_25 : decode cX8_cart 25 = .ok (.aload 5, 2) := by decide +kernel
theorem dX8_cart_27 : decode cX8_cart 27 = .ok (.ifnull 23, 3) := by decide +kernel
theorem dX8_cart_30 : decode cX8_cart 30 = .ok (.aload 4, 2) := by decide +kernel
theorem dX8_cart_32 : decode cX8_cart 32 = .ok (.aload 5, 2) := by decide +kernel
theorem dX8_cart_34 : decode cX8_cart 34 = .ok (.if_acmp .eq 16, 3) := by decide +kernel
theorem dX8_cart_37 : decode cX8_cart 37 = .ok (.iload_n 3, 1) := by decide +kernel
theorem dX8_cart_38 : decode cX8_cart 38 = .ok (.iconst 1, 1) := by decide +kernel
theorem dX8_cart_39 : decode cX8_cart 39 = .ok (.aload 4, 2) := by decide +kernel
theorem dX8_cart_41 : decode cX8_cart 41 = .ok (.getfield 107, 3) := by decide +kernel
theorem dX8_cart_44 : decode cX8_cart 44 = .ok (.invokestatic 40, 3) := by decide +kernel
theorem dX8_cart_47 : decode cX8_cart 47 = .ok (.ifCond .ne 5, 3) := by decide +kernel
theorem dX8_cart_50 : decode cX8_cart 50 = .ok (.iconst 0, 1) := by decide +kernel
theorem dX8_cart_51 : decode cX8_cart 51 = .ok (.ireturn, 1) := by decide +kernel
theorem dX8_cart_52 : decode cX8_cart 52 = .ok (.aload 4, 2) := by decide +kernel
theorem dX8_cart_54 : decode cX8_cart 54 = .ok (.dup, 1) := by decide +kernel
theorem dX8_cart_55 : decode cX8_cart 55 = .ok (.getfield 107, 3) := by decide +kernel
theorem dX8_cart_58 : decode cX8_cart 58 = .ok (.iload_n 3, 1) := by decide +kernel
theorem dX8_cart_59 : decode cX8_cart 59 = .ok (.isub, 1) := by decide +kernel
theorem dX8_cart_60 : decode cX8_cart 60 = .ok (.putfield 107, 3) := by decide +kernel
theorem dX8_cart_63 : decode cX8_cart 63 = .ok (.aload 5, 2) := by decide +kernel
theorem dX8_cart_65 : decode cX8_cart 65 = .ok (.dup, 1) := by decide +kernel
theorem dX8_cart_66 : decode cX8_cart 66 = .ok (.getfield 107, 3) := by decide +kernel
theorem dX8_cart_69 : decode cX8_cart 69 = .ok (.iload_n 3, 1) := by decide +kernel
theorem dX8_cart_70 : decode cX8_cart 70 = .ok (.iadd, 1) := by decide +kernel
theorem dX8_cart_71 : decode cX8_cart 71 = .ok (.putfield 107, 3) := by decide +kernel
theorem dX8_cart_74 : decode cX8_cart 74 = .ok (.aload 5, 2) := by decide +kernel
theorem dX8_cart_76 : decode cX8_cart 76 = .ok (.aload 4, 2) := by decide +kernel
theorem dX8_cart_78 : decode cX8_cart 78 = .ok (.iload_n 3, 1) := by decide +kernel
theorem dX8_cart_79 : decode cX8_cart 79 = .ok (.invokestatic 157, 3) := by decide +kernel
theorem dX8_cart_82 : decode cX8_cart 82 = .ok (.iconst 1, 1) := by decide +kernel
theorem dX8_cart_83 : decode cX8_cart 83 = .ok (.ireturn, 1) := by decide +kernel
theorem mcX8_cart : x_mc yX8_cart cX8_cart 6 (some .boolean) 3 := ⟨wd_474, wd_1, by decide +kernel⟩
set_option maxHeartbeats 4000000 in
set_option maxRecDepth 100000 in
theorem kX8_cart (l : Launch) (base : Nat) (D : va_G) (dA : Nat → ClassId) (F : Nat) (r0 : Option Nat) (x1 : Int32) (x2 : Int32) (x3 : Int32) : x_Met l base D dA yX8_cart cX8_cart 6 (some .boolean) 1 22 [va_rf r0, .int x1, .int x2, .int x3] (mX8_cart F r0 x1 x2 x3) (fun x => some (.int x)) := by
  refine x_Met.of [(0, .inr (.inl r0)), (1, .inl x1), (2, .inl x2), (3, .inl x3)] (by decide) (Nat.le_of_ble_eq_true rfl) rfl rfl ?_
  intro p e R s m args below meth c σ a τ ls hfr hlo E hr hk hn S hM hl
  have E : x_E p s m args c cX8_cart 6 "WireMoney" D dA := E
  unfold mX8_cart at hM
  refine w_aload_n E hl 0 dX8_cart_0 rfl ?_
  refine w_rR E S hM lk_8_12 rfl dX8_cart_1 (fun v1 hM => ?_)
  refine w_iload_n E hl 1 dX8_cart_4 rfl ?_
  refine w_cVq (rest := []) E S hl hM (kX3_findCounter l base D dA F v1 x1) mcX3_findCounter ⟨by decide, rfl, wd_153, wd_154, wd_155⟩ hfr hlo (by decide) rfl (Nat.le_of_ble_eq_true rfl) dX8_cart_5 rfl (fun v5 σ H locs S hM => ?_)
  refine w_astore (lt' := [(4, .inr (.inl v5)), (0, .inr (.inl r0)), (1, .inl x1), (2, .inl x2), (3, .inl x3)]) E hl dX8_cart_8 (by decide) rfl (fun ls hl => ?_)
  refine w_aload_n E hl 1 dX8_cart_10 rfl ?_
  refine w_rR E S hM lk_8_12 rfl dX8_cart_11 (fun v11 hM => ?_)
  refine w_iload_n E hl 3 dX8_cart_14 rfl ?_
  refine w_cVq (rest := []) E S hl hM (kX3_findCounter l base D dA F v11 x2) mcX3_findCounter ⟨by decide, rfl, wd_153, wd_154, wd_155⟩ hfr hlo (by decide) rfl (Nat.le_of_ble_eq_true rfl) dX8_cart_15 rfl (fun v15 σ H locs S hM => ?_)
  refine w_astore (lt' := [(5, .inr (.inl v15)), (4, .inr (.inl v5)), (0, .inr (.inl r0)), (1, .inl x1), (2, .inl x2), (3, .inl x3)]) E hl dX8_cart_18 (by decide) rfl (fun ls hl => ?_)
  refine w_aload E hl 1 dX8_cart_20 rfl ?_
  refine w_ifnull (tgt := 50) E hM dX8_cart_22 (by decide) (fun c22 hM => ?_) (fun a22 c22 hM => ?_)
  · skip
    refine lv_iconst (v := (0 : Int32)) E.1 E.2.1 dX8_cart_50 (by decide) ?_
    exact w_zretc E S hM (by decide) hr hk dX8_cart_51
  · skip
    refine w_aload E hl 0 dX8_cart_25 rfl ?_
    refine w_ifnull (tgt := 50) E hM dX8_cart_27 (by decide) (fun c27 hM => ?_) (fun a27 c27 hM => ?_)
    · skip
      refine lv_iconst (v := (0 : Int32)) E.1 E.2.1 dX8_cart_50 (by decide) ?_
      exact w_zretc E S hM (by decide) hr hk dX8_cart_51
    · skip
      refine w_aload E hl 1 dX8_cart_30 rfl ?_
      refine w_aload E hl 0 dX8_cart_32 rfl ?_
      refine lv_acmp_eq (tgt := 50) E.1 E.2.1 dX8_cart_34 (by decide) (fun c34 => ?_) (fun c34 => ?_)
      · replace hM := x_okT hM c34
        refine lv_iconst (v := (0 : Int32)) E.1 E.2.1 dX8_cart_50 (by decide) ?_
        exact w_zretc E S hM (by decide) hr hk dX8_cart_51
      · replace hM := x_okF hM c34
        refine w_iload_n E hl 5 dX8_cart_37 rfl ?_
        refine lv_iconst (v := (1 : Int32)) E.1 E.2.1 dX8_cart_38 (by decide) ?_
        refine w_aload E hl 1 dX8_cart_39 rfl ?_
        refine w_rI E S hM lk_8_107 rfl dX8_cart_41 (fun v41 hM => ?_)
        refine w_cSi (rest := []) E S hl hM (kX8_isWithin l base D dA F x3 (1 : Int32) v41) mcX8_isWithin ⟨wd_115, wd_116⟩ hfr hlo (by decide) rfl (Nat.le_of_ble_eq_true rfl) dX8_cart_44 rfl (fun v44 σ H locs S hM => ?_)
        refine lv_if_ne (tgt := 52) E.1 E.2.1 dX8_cart_47 (by decide) (fun c47 => ?_) (fun c47 => ?_)
        · replace hM := x_okF hM c47
          refine w_aload E hl 1 dX8_cart_52 rfl ?_
          refine lv_dup E.1 E.2.1 dX8_cart_54 (x_cat _) ?_
          refine w_rI E S hM lk_8_107 rfl dX8_cart_55 (fun v55 hM => ?_)
          refine w_iload_n E hl 5 dX8_cart_58 rfl ?_
          refine lv_isub E.1 E.2.1 dX8_cart_59 ?_
          refine w_wI E S hM lk_8_107 rfl (Or.inl rfl) dX8_cart_60 (fun σ H locs S hM => ?_)
          refine w_aload E hl 0 dX8_cart_63 rfl ?_
          refine lv_dup E.1 E.2.1 dX8_cart_65 (x_cat _) ?_
          refine w_rI E S hM lk_8_107 rfl dX8_cart_66 (fun v66 hM => ?_)
          refine w_iload_n E hl 5 dX8_cart_69 rfl ?_
          refine lv_iadd E.1 E.2.1 dX8_cart_70 ?_
          refine w_wI E S hM lk_8_107 rfl (Or.inl rfl) dX8_cart_71 (fun σ H locs S hM => ?_)
          refine w_aload E hl 0 dX8_cart_74 rfl ?_
          refine w_aload E hl 1 dX8_cart_76 rfl ?_
          refine w_iload_n E hl 5 dX8_cart_78 rfl ?_
          refine w_cSv (rest := []) E S hl hM (kX8_owe l base D dA F v15 v5 x3) mcX8_owe ⟨wd_468, wd_469⟩ hfr hlo (by decide) rfl (Nat.le_of_ble_eq_true rfl) dX8_cart_79 rfl (fun σ H locs S hM => ?_)
          refine lv_iconst (v := (1 : Int32)) E.1 E.2.1 dX8_cart_82 (by decide) ?_
          exact w_zretc E S hM (by decide) hr hk dX8_cart_83
        · replace hM := x_okT hM c47
          refine lv_iconst (v := (0 : Int32)) E.1 E.2.1 dX8_cart_50 (by decide) ?_
          exact w_zretc E S hM (by decide) hr hk dX8_cart_51
theorem dX8_findMessage_0 : decode cX8_findMessage 0 = .ok (.iload_n 1, 1) := by decide +kernel
theorem dX8_findMessage_1 : decode cX8_findMessage 1 = .ok (.ifCond .lt 29, 3) := by decide +kernel
theorem dX8_findMessage_4 : decode cX8_findMessage 4 = .ok (.iload_n 1, 1) := by decide +kernel
theorem dX8_findMessage_5 : decode cX8_findMessage 5 = .ok (.aload_n 0, 1) := by decide +kernel
theorem dX8_findMessage_6 : decode cX8_findMessage 6 = .ok (.getfield 135, 3) := by decide +kernel
theorem dX8_findMessage_9 : decode cX8_findMessage 9 = .ok (.if_icmp .ge 21, 3) := by decide +kernel
theorem dX8_findMessage_12 : decode cX8_findMessage 12 = .ok (.iload_n 1, 1) := by decide +kernel
theorem dX8_findMessage_13 : decode cX8_findMessage 13 = .ok (.aload_n 0, 1) := by decide +kernel
theorem dX8_findMessage_14 : decode cX8_findMessage 14 = .ok (.getfield 31, 3) := by decide +kernel
theorem dX8_findMessage_17 : decode cX8_findMessage 17 = .ok (.arraylength, 1) := by decide +kernel
theorem dX8_findMessage_18 : decode cX8_findMessage 18 = .ok (.if_icmp .ge 12, 3) := by decide +kernel
theorem dX8_findMessage_21 : decode cX8_findMessage 21 = .ok (.aload_n 0, 1) := by decide +kernel
theorem dX8_findMessage_22 : decode cX8_findMessage 22 = .ok (.getfield 31, 3) := by decide +kernel
theorem dX8_findMessage_25 : decode cX8_findMessage 25 = .ok (.iload_n 1, 1) := by decide +kernel
theorem dX8_findMessage_26 : decode cX8_findMessage 26 = .ok (.aaload, 1) := by decide +kernel
theorem dX8_findMessage_27 : decode cX8_findMessage 27 = .ok (.goto 4, 3) := by decide +kernel
theorem dX8_findMessage_30 : decode cX8_findMessage 30 = .ok (.aconst_null, 1) := by decide +kernel
theorem dX8_findMessage_31 : decode cX8_findMessage 31 = .ok (.areturn, 1) := by decide +kernel
theorem mcX8_findMessage : x_mc yX8_findMessage cX8_findMessage 2 (some (.object "WireMoney$Message")) 1 := ⟨wd_482, wd_1, by decide +kernel⟩
set_option maxHeartbeats 4000000 in
set_option maxRecDepth 100000 in
theorem kX8_findMessage (l : Launch) (base : Nat) (D : va_G) (dA : Nat → ClassId) (F : Nat) (r0 : Option Nat) (x1 : Int32) : x_Met l base D dA yX8_findMessage cX8_findMessage 2 (some (.object "WireMoney$Message")) 0 0 [va_rf r0, .int x1] (mX8_findMessage F r0 x1) (fun x => some (va_rf x)) := by
  refine x_Met.of [(0, .inr (.inl r0)), (1, .inl x1)] (by decide) (Nat.le_of_ble_eq_true rfl) rfl rfl ?_
  intro p e R s m args below meth c σ a τ ls hfr hlo E hr hk hn S hM hl
  have E : x_E p s m args c cX8_findMessage 2 "WireMoney" D dA := E
  unfold mX8_findMessage at hM
  refine w_iload_n E hl 1 dX8_findMessage_0 rfl ?_
  refine lv_if_lt (tgt := 30) E.1 E.2.1 dX8_findMessage_1 (by decide) (fun c1 => ?_) (fun c1 => ?_)
  · replace hM := x_okT hM c1
    refine w_null E dX8_findMessage_30 ?_
    exact w_aret E S hM hr hk dX8_findMessage_31
  · replace hM := x_okF hM c1
    refine w_iload_n E hl 1 dX8_findMessage_4 rfl ?_
    refine w_aload_n E hl 0 dX8_findMessage_5 rfl ?_
    refine w_rI E S hM lk_8_135 rfl dX8_findMessage_6 (fun v6 hM => ?_)
    refine lv_icmp_ge (tgt := 30) E.1 E.2.1 dX8_findMessage_9 (by decide) (fun c9 => ?_) (fun c9 => ?_)
    · replace hM := x_okT hM c9
      refine w_null E dX8_findMessage_30 ?_
      exact w_aret E S hM hr hk dX8_findMessage_31
    · replace hM := x_okF hM c9
      refine w_iload_n E hl 1 dX8_findMessage_12 rfl ?_
      refine w_aload_n E hl 0 dX8_findMessage_13 rfl ?_
      refine w_rR E S hM lk_8_31 rfl dX8_findMessage_14 (fun v14 hM => ?_)
      refine w_aL E S hM (by decide) dX8_findMessage_17 (fun v17 hM => ?_)
      refine lv_icmp_ge (tgt := 30) E.1 E.2.1 dX8_findMessage_18 (by decide) (fun c18 => ?_) (fun c18 => ?_)
      · replace hM := x_okT hM c18
        refine w_null E dX8_findMessage_30 ?_
        exact w_aret E S hM hr hk dX8_findMessage_31
      · replace hM := x_okF hM c18
        refine w_aload_n E hl 0 dX8_findMessage_21 rfl ?_
        refine w_rR E S hM lk_8_31 rfl dX8_findMessage_22 (fun v22 hM => ?_)
        refine w_iload_n E hl 1 dX8_findMessage_25 rfl ?_
        refine w_aQ E S hM (by decide) dX8_findMessage_26 (fun v26 hM => ?_)
        refine lv_goto (tgt := 31) E.1 E.2.1 dX8_findMessage_27 (by decide) ?_
        exact w_aret E S hM hr hk dX8_findMessage_31
theorem dX8_garble_0 : decode cX8_garble 0 = .ok (.aload_n 0, 1) := by decide +kernel
theorem dX8_garble_1 : decode cX8_garble 1 = .ok (.iload_n 1, 1) := by decide +kernel
theorem dX8_garble_2 : decode cX8_garble 2 = .ok (.invokevirtual 161, 3) := by decide +kernel
theorem dX8_garble_5 : decode cX8_garble 5 = .ok (.astore 4, 2) := by decide +kernel
theorem dX8_garble_7 : decode cX8_garble 7 = .ok (.aload 4, 2) := by decide +kernel
theorem dX8_garble_9 : decode cX8_garble 9 = .ok (.ifnull 19, 3) := by decide +kernel
theorem dX8_garble_12 : decode cX8_garble 12 = .ok (.aload 4, 2) := by decide +kernel
theorem dX8_garble_14 : decode cX8_garble 14 = .ok (.getfield 165, 3) := by decide +kernel
theorem dX8_garble_17 : decode cX8_garble 17 = .ok (.ifnull 11, 3) := by decide +kernel
theorem dX8_garble_20 : decode cX8_garble 20 = .ok (.aload 4, 2) := by decide +kernel
theorem dX8_garble_22 : decode cX8_garble 22 = .ok (.invokevirtual 169, 3) := by decide +kernel
theorem dX8_garble_25 : decode cX8_garble 25 = .ok (.ifCond .eq 5, 3) := by decide +kernel
theorem dX8_garble_28 : decode cX8_garble 28 = .ok (.iconst 0, 1) := by decide +kernel
theorem dX8_garble_29 : decode cX8_garble 29 = .ok (.ireturn, 1) := by decide +kernel
theorem dX8_garble_30 : decode cX8_garble 30 = .ok (.aload 4, 2) := by decide +kernel
theorem dX8_garble_32 : decode cX8_garble 32 = .ok (.getfield 165, 3) := by decide +kernel
theorem dX8_garble_35 : decode cX8_garble 35 = .ok (.iload_n 2, 1) := by decide +kernel
theorem dX8_garble_36 : decode cX8_garble 36 = .ok (.iload_n 3, 1) := by decide +kernel
theorem dX8_garble_37 : decode cX8_garble 37 = .ok (.invokevirtual 172, 3) := by decide +kernel
theorem dX8_garble_40 : decode cX8_garble 40 = .ok (.ireturn, 1) := by decide +kernel
theorem mcX8_garble : x_mc yX8_garble cX8_garble 5 (some .boolean) 3 := ⟨wd_478, wd_1, by decide +kernel⟩
set_option maxHeartbeats 4000000 in
set_option maxRecDepth 100000 in
theorem kX8_garble (l : Launch) (base : Nat) (D : va_G) (dA : Nat → ClassId) (F : Nat) (r0 : Option Nat) (x1 : Int32) (x2 : Int32) (x3 : Int32) : x_Met l base D dA yX8_garble cX8_garble 5 (some .boolean) 1 22 [va_rf r0, .int x1, .int x2, .int x3] (mX8_garble F r0 x1 x2 x3) (fun x => some (.int x)) := by
  refine x_Met.of [(0, .inr (.inl r0)), (1, .inl x1), (2, .inl x2), (3, .inl x3)] (by decide) (Nat.le_of_ble_eq_true rfl) rfl rfl ?_
  intro p e R s m args below meth c σ a τ ls hfr hlo E hr hk hn S hM hl
  have E : x_E p s m args c cX8_garble 5 "WireMoney" D dA := E
  unfold mX8_garble at hM
  refine w_aload_n E hl 0 dX8_garble_0 rfl ?_
  refine w_iload_n E hl 1 dX8_garble_1 rfl ?_
  refine w_cVq (rest := []) E S hl hM (kX8_findMessage l base D dA F r0 x1) mcX8_findMessage ⟨by decide, rfl, wd_479, wd_481, wp_11⟩ hfr hlo (by decide) rfl (Nat.le_of_ble_eq_true rfl) dX8_garble_2 rfl (fun v2 σ H locs S hM => ?_)
  refine w_astore (lt' := [(4, .inr (.inl v2)), (0, .inr (.inl r0)), (1, .inl x1), (2, .inl x2), (3, .inl x3)]) E hl dX8_garble_5 (by decide) rfl (fun ls hl => ?_)
  refine w_aload E hl 0 dX8_garble_7 rfl ?_
  refine w_ifnull (tgt := 28) E hM dX8_garble_9 (by decide) (fun c9 hM => ?_) (fun a9 c9 hM => ?_)
  · skip
    refine lv_iconst (v := (0 : Int32)) E.1 E.2.1 dX8_garble_28 (by decide) ?_
    exact w_zretc E S hM (by decide) hr hk dX8_garble_29
  · skip
    refine w_aload E hl 0 dX8_garble_12 rfl ?_
    refine w_rR E S hM lk_8_165 rfl dX8_garble_14 (fun v14 hM => ?_)
    refine w_ifnull (tgt := 28) E hM dX8_garble_17 (by decide) (fun c17 hM => ?_) (fun a17 c17 hM => ?_)
    · skip
      refine lv_iconst (v := (0 : Int32)) E.1 E.2.1 dX8_garble_28 (by decide) ?_
      exact w_zretc E S hM (by decide) hr hk dX8_garble_29
    · skip
      refine w_aload E hl 0 dX8_garble_20 rfl ?_
      refine w_cVi (rest := []) E S hl hM (kX2_isRead l base D dA F v2) mcX2_isRead ⟨by decide, rfl, wd_483, wd_484, wd_485⟩ hfr hlo (by decide) rfl (Nat.le_of_ble_eq_true rfl) dX8_garble_22 rfl (fun v22 σ H locs S hM => ?_)
      refine lv_if_eq (tgt := 30) E.1 E.2.1 dX8_garble_25 (by decide) (fun c25 => ?_) (fun c25 => ?_)
      · replace hM := x_okT hM c25
        refine w_aload E hl 0 dX8_garble_30 rfl ?_
        refine w_rR E S hM lk_8_165 rfl dX8_garble_32 (fun v32 hM => ?_)
        refine w_iload_n E hl 3 dX8_garble_35 rfl ?_
        refine w_iload_n E hl 4 dX8_garble_36 rfl ?_
        refine w_cVi (rest := []) E S hl hM (kX6_change l base D dA F v32 x2 x3) mcX6_change ⟨by decide, rfl, wd_487, wd_488, wd_489⟩ hfr hlo (by decide) rfl (Nat.le_of_ble_eq_true rfl) dX8_garble_37 rfl (fun v37 σ H locs S hM => ?_)
        exact w_zret E S hM hr hk dX8_garble_40
      · replace hM := x_okF hM c25
        refine lv_iconst (v := (0 : Int32)) E.1 E.2.1 dX8_garble_28 (by decide) ?_
        exact w_zretc E S hM (by decide) hr hk dX8_garble_29
theorem dX8_readPayment_0 : decode cX8_readPayment 0 = .ok (.aload_n 1, 1) := by decide +kernel
theorem dX8_readPayment_1 : decode cX8_readPayment 1 = .ok (.getfield 165, 3) := by decide +kernel
theorem dX8_readPayment_4 : decode cX8_readPayment 4 = .ok (.ifnull 40, 3) := by decide +kernel
theorem dX8_readPayment_7 : decode cX8_readPayment 7 = .ok (.aload_n 1, 1) := by decide +kernel
theorem dX8_readPayment_8 : decode cX8_readPayment 8 = .ok (.getfield 165, 3) := by decide +kernel
theorem dX8_readPayment_11 : decode cX8_readPayment 11 = .ok (.invokevirtual 333, 3) := by decide +kernel
theorem dX8_readPayment_14 : decode cX8_readPayment 14 = .ok (.ifCond .ne 30, 3) := by decide +kernel
theorem dX8_readPayment_17 : decode cX8_readPayment 17 = .ok (.aload_n 1, 1) := by decide +kernel
theorem dX8_readPayment_18 : decode cX8_readPayment 18 = .ok (.iconst 1, 1) := by decide +kernel
theorem dX8_readPayment_19 : decode cX8_readPayment 19 = .ok (.putfield 211, 3) := by decide +kernel
theorem dX8_readPayment_22 : decode cX8_readPayment 22 = .ok (.aload_n 0, 1) := by decide +kernel
theorem dX8_readPayment_23 : decode cX8_readPayment 23 = .ok (.dup, 1) := by decide +kernel
theorem dX8_readPayment_24 : decode cX8_readPayment 24 = .ok (.getfield 247, 3) := by decide +kernel
theorem dX8_readPayment_27 : decode cX8_readPayment 27 = .ok (.iconst 1, 1) := by decide +kernel
theorem dX8_readPayment_28 : decode cX8_readPayment 28 = .ok (.iadd, 1) := by decide +kernel
theorem dX8_readPayment_29 : decode cX8_readPayment 29 = .ok (.putfield 247, 3) := by decide +kernel
theorem dX8_readPayment_32 : decode cX8_readPayment 32 = .ok (.aload_n 0, 1) := by decide +kernel
theorem dX8_readPayment_33 : decode cX8_readPayment 33 = .ok (.iconst 3, 1) := by decide +kernel
theorem dX8_readPayment_34 : decode cX8_readPayment 34 = .ok (.aload_n 1, 1) := by decide +kernel
theorem dX8_readPayment_35 : decode cX8_readPayment 35 = .ok (.getfield 198, 3) := by decide +kernel
theorem dX8_readPayment_38 : decode cX8_readPayment 38 = .ok (.invokevirtual 113, 3) := by decide +kernel
theorem dX8_readPayment_41 : decode cX8_readPayment 41 = .ok (.goto 21, 3) := by decide +kernel
theorem dX8_readPayment_44 : decode cX8_readPayment 44 = .ok (.aload_n 1, 1) := by decide +kernel
theorem dX8_readPayment_45 : decode cX8_readPayment 45 = .ok (.getfield 198, 3) := by decide +kernel
theorem dX8_readPayment_48 : decode cX8_readPayment 48 = .ok (.getfield 144, 3) := by decide +kernel
theorem dX8_readPayment_51 : decode cX8_readPayment 51 = .ok (.ifCond .ne 11, 3) := by decide +kernel
theorem dX8_readPayment_54 : decode cX8_readPayment 54 = .ok (.aload_n 1, 1) := by decide +kernel
theorem dX8_readPayment_55 : decode cX8_readPayment 55 = .ok (.getfield 198, 3) := by decide +kernel
theorem dX8_readPayment_58 : decode cX8_readPayment 58 = .ok (.iconst 1, 1) := by decide +kernel
theorem dX8_readPayment_59 : decode cX8_readPayment 59 = .ok (.putfield 138, 3) := by decide +kernel
theorem dX8_readPayment_62 : decode cX8_readPayment 62 = .ok (.return_, 1) := by decide +kernel
set_option maxHeartbeats 4000000 in
set_option maxRecDepth 100000 in
theorem bX8_readPayment_44 {p : Program} {l : Launch} {e : Env} {R : Room} {s : State} {m : MethodId} {args : Array Value} {below : List Frame} {meth : Method} {c : Code} {base : Nat} {D : va_G} {dA : Nat → ClassId} {σ0 : PH} {z : Unit × PH} {F : Nat} (E : x_E p s m args c cX8_readPayment 2 "WireMoney" D dA) (hr : meth.sig.returnType = none) (hk : meth.locks = false) (hfr : R.frames = 3) (hlo : R.locals = 74) : ∀ (y1 : Option Nat) (σ : PH) (H : Heap) (locs : List Loc) (ls : Array Slot), x_S base D dA R s σ0 z.2 σ H locs → x_rn (mX8_readPayment_44 F y1) σ = some z → x_lv ls 2 [(1, .inr (.inl y1))] → W p l e R s m args below meth c H locs (x_N σ - x_N σ0) (x_U σ - x_U σ0) (x_end below args s base D dA (fun _ => none) σ0 z) (F0 m 44 ls []) := by
  intro y1 σ H locs ls S hM hl
  unfold mX8_readPayment_44 at hM
  refine w_aload_n E hl 0 dX8_readPayment_44 rfl ?_
  refine w_rR E S hM lk_8_198 rfl dX8_readPayment_45 (fun v45 hM => ?_)
  refine w_rI E S hM lk_8_144 rfl dX8_readPayment_48 (fun v48 hM => ?_)
  refine lv_if_ne (tgt := 62) E.1 E.2.1 dX8_readPayment_51 (by decide) (fun c51 => ?_) (fun c51 => ?_)
  · replace hM := x_okF hM c51
    exact w_vret E S hM hr hk dX8_readPayment_62
  · replace hM := x_okT hM c51
    refine w_aload_n E hl 0 dX8_readPayment_54 rfl ?_
    refine w_rR E S hM lk_8_198 rfl dX8_readPayment_55 (fun v55 hM => ?_)
    refine lv_iconst (v := (1 : Int32)) E.1 E.2.1 dX8_readPayment_58 (by decide) ?_
    refine w_wZ E S hM lk_8_138 rfl (Or.inl rfl) dX8_readPayment_59 (fun σ H locs S hM => ?_)
    exact w_vret E S hM hr hk dX8_readPayment_62
theorem mcX8_readPayment : x_mc yX8_readPayment cX8_readPayment 2 none 1 := ⟨wd_511, wd_1, by decide +kernel⟩
set_option maxHeartbeats 4000000 in
set_option maxRecDepth 100000 in
theorem kX8_readPayment (l : Launch) (base : Nat) (D : va_G) (dA : Nat → ClassId) (F : Nat) (r0 : Option Nat) (r1 : Option Nat) : x_Met l base D dA yX8_readPayment cX8_readPayment 2 none 3 74 [va_rf r0, va_rf r1] (mX8_readPayment F r0 r1) (fun _ => none) := by
  refine x_Met.of [(0, .inr (.inl r0)), (1, .inr (.inl r1))] (by decide) (Nat.le_of_ble_eq_true rfl) rfl rfl ?_
  intro p e R s m args below meth c σ a τ ls hfr hlo E hr hk hn S hM hl
  have E : x_E p s m args c cX8_readPayment 2 "WireMoney" D dA := E
  unfold mX8_readPayment at hM
  refine w_aload_n E hl 1 dX8_readPayment_0 rfl ?_
  refine w_rR E S hM lk_8_165 rfl dX8_readPayment_1 (fun v1 hM => ?_)
  refine w_ifnull (tgt := 44) E hM dX8_readPayment_4 (by decide) (fun c4 hM => ?_) (fun a4 c4 hM => ?_)
  · skip
    exact bX8_readPayment_44 E hr hk hfr hlo r1 _ _ _ _ S hM (x_lv_sub hl [1] rfl)
  · skip
    refine w_aload_n E hl 1 dX8_readPayment_7 rfl ?_
    refine w_rR E S hM lk_8_165 rfl dX8_readPayment_8 (fun v8 hM => ?_)
    refine w_cVi (rest := []) E S hl hM (kX6_fitTest l base D dA F v8) mcX6_fitTest ⟨by decide, rfl, wd_512, wd_513, wd_514⟩ hfr hlo (by decide) rfl (Nat.le_of_ble_eq_true rfl) dX8_readPayment_11 rfl (fun v11 σ H locs S hM => ?_)
    refine lv_if_ne (tgt := 44) E.1 E.2.1 dX8_readPayment_14 (by decide) (fun c14 => ?_) (fun c14 => ?_)
    · replace hM := x_okF hM c14
      exact bX8_readPayment_44 E hr hk hfr hlo r1 _ _ _ _ S hM (x_lv_sub hl [1] rfl)
    · replace hM := x_okT hM c14
      refine w_aload_n E hl 1 dX8_readPayment_17 rfl ?_
      refine lv_iconst (v := (1 : Int32)) E.1 E.2.1 dX8_readPayment_18 (by decide) ?_
      refine w_wZ E S hM lk_8_211 rfl (Or.inl rfl) dX8_readPayment_19 (fun σ H locs S hM => ?_)
      refine w_aload_n E hl 0 dX8_readPayment_22 rfl ?_
      refine lv_dup E.1 E.2.1 dX8_readPayment_23 (x_cat _) ?_
      refine w_rI E S hM lk_8_247 rfl dX8_readPayment_24 (fun v24 hM => ?_)
      refine lv_iconst (v := (1 : Int32)) E.1 E.2.1 dX8_readPayment_27 (by decide) ?_
      refine lv_iadd E.1 E.2.1 dX8_readPayment_28 ?_
      refine w_wI E S hM lk_8_247 rfl (Or.inl rfl) dX8_readPayment_29 (fun σ H locs S hM => ?_)
      refine w_aload_n E hl 0 dX8_readPayment_32 rfl ?_
      refine lv_iconst (v := (3 : Int32)) E.1 E.2.1 dX8_readPayment_33 (by decide) ?_
      refine w_aload_n E hl 1 dX8_readPayment_34 rfl ?_
      refine w_rR E S hM lk_8_198 rfl dX8_readPayment_35 (fun v35 hM => ?_)
      refine w_cVv (rest := []) E S hl hM (kX8_write l base D dA F r0 (3 : Int32) v35) mcX8_write ⟨by decide, rfl, wd_358, wd_360, wp_7⟩ hfr hlo (by decide) rfl (Nat.le_of_ble_eq_true rfl) dX8_readPayment_38 rfl (fun σ H locs S hM => ?_)
      refine lv_goto (tgt := 62) E.1 E.2.1 dX8_readPayment_41 (by decide) ?_
      exact w_vret E S hM hr hk dX8_readPayment_62
theorem dX8_readStop_0 : decode cX8_readStop 0 = .ok (.aload_n 1, 1) := by decide +kernel
theorem dX8_readStop_1 : decode cX8_readStop 1 = .ok (.getfield 141, 3) := by decide +kernel
theorem dX8_readStop_4 : decode cX8_readStop 4 = .ok (.ifCond .eq 16, 3) := by decide +kernel
theorem dX8_readStop_7 : decode cX8_readStop 7 = .ok (.aload_n 0, 1) := by decide +kernel
theorem dX8_readStop_8 : decode cX8_readStop 8 = .ok (.dup, 1) := by decide +kernel
theorem dX8_readStop_9 : decode cX8_readStop 9 = .ok (.getfield 253, 3) := by decide +kernel
theorem dX8_readStop_12 : decode cX8_readStop 12 = .ok (.iconst 1, 1) := by decide +kernel
theorem dX8_readStop_13 : decode cX8_readStop 13 = .ok (.iadd, 1) := by decide +kernel
theorem dX8_readStop_14 : decode cX8_readStop 14 = .ok (.putfield 253, 3) := by decide +kernel
theorem dX8_readStop_17 : decode cX8_readStop 17 = .ok (.goto 14, 3) := by decide +kernel
theorem dX8_readStop_20 : decode cX8_readStop 20 = .ok (.aload_n 1, 1) := by decide +kernel
theorem dX8_readStop_21 : decode cX8_readStop 21 = .ok (.iconst 1, 1) := by decide +kernel
theorem dX8_readStop_22 : decode cX8_readStop 22 = .ok (.putfield 144, 3) := by decide +kernel
theorem dX8_readStop_25 : decode cX8_readStop 25 = .ok (.aload_n 0, 1) := by decide +kernel
theorem dX8_readStop_26 : decode cX8_readStop 26 = .ok (.iconst 2, 1) := by decide +kernel
theorem dX8_readStop_27 : decode cX8_readStop 27 = .ok (.aload_n 1, 1) := by decide +kernel
theorem dX8_readStop_28 : decode cX8_readStop 28 = .ok (.invokevirtual 113, 3) := by decide +kernel
theorem dX8_readStop_31 : decode cX8_readStop 31 = .ok (.return_, 1) := by decide +kernel
theorem mcX8_readStop : x_mc yX8_readStop cX8_readStop 2 none 1 := ⟨wd_519, wd_1, by decide +kernel⟩
set_option maxHeartbeats 4000000 in
set_option maxRecDepth 100000 in
theorem kX8_readStop (l : Launch) (base : Nat) (D : va_G) (dA : Nat → ClassId) (F : Nat) (r0 : Option Nat) (r1 : Option Nat) : x_Met l base D dA yX8_readStop cX8_readStop 2 none 3 74 [va_rf r0, va_rf r1] (mX8_readStop F r0 r1) (fun _ => none) := by
  refine x_Met.of [(0, .inr (.inl r0)), (1, .inr (.inl r1))] (by decide) (Nat.le_of_ble_eq_true rfl) rfl rfl ?_
  intro p e R s m args below meth c σ a τ ls hfr hlo E hr hk hn S hM hl
  have E : x_E p s m args c cX8_readStop 2 "WireMoney" D dA := E
  unfold mX8_readStop at hM
  refine w_aload_n E hl 1 dX8_readStop_0 rfl ?_
  refine w_rI E S hM lk_8_141 rfl dX8_readStop_1 (fun v1 hM => ?_)
  refine lv_if_eq (tgt := 20) E.1 E.2.1 dX8_readStop_4 (by decide) (fun c4 => ?_) (fun c4 => ?_)
  · replace hM := x_okT hM c4
    refine w_aload_n E hl 1 dX8_readStop_20 rfl ?_
    refine lv_iconst (v := (1 : Int32)) E.1 E.2.1 dX8_readStop_21 (by decide) ?_
    refine w_wZ E S hM lk_8_144 rfl (Or.inl rfl) dX8_readStop_22 (fun σ H locs S hM => ?_)
    refine w_aload_n E hl 0 dX8_readStop_25 rfl ?_
    refine lv_iconst (v := (2 : Int32)) E.1 E.2.1 dX8_readStop_26 (by decide) ?_
    refine w_aload_n E hl 1 dX8_readStop_27 rfl ?_
    refine w_cVv (rest := []) E S hl hM (kX8_write l base D dA F r0 (2 : Int32) r1) mcX8_write ⟨by decide, rfl, wd_358, wd_360, wp_7⟩ hfr hlo (by decide) rfl (Nat.le_of_ble_eq_true rfl) dX8_readStop_28 rfl (fun σ H locs S hM => ?_)
    exact w_vret E S hM hr hk dX8_readStop_31
  · replace hM := x_okF hM c4
    refine w_aload_n E hl 0 dX8_readStop_7 rfl ?_
    refine lv_dup E.1 E.2.1 dX8_readStop_8 (x_cat _) ?_
    refine w_rI E S hM lk_8_253 rfl dX8_readStop_9 (fun v9 hM => ?_)
    refine lv_iconst (v := (1 : Int32)) E.1 E.2.1 dX8_readStop_12 (by decide) ?_
    refine lv_iadd E.1 E.2.1 dX8_readStop_13 ?_
    refine w_wI E S hM lk_8_253 rfl (Or.inl rfl) dX8_readStop_14 (fun σ H locs S hM => ?_)
    refine lv_goto (tgt := 31) E.1 E.2.1 dX8_readStop_17 (by decide) ?_
    exact w_vret E S hM hr hk dX8_readStop_31
theorem dX8_payBack_0 : decode cX8_payBack 0 = .ok (.aload_n 1, 1) := by decide +kernel
theorem dX8_payBack_1 : decode cX8_payBack 1 = .ok (.iconst 1, 1) := by decide +kernel
theorem dX8_payBack_2 : decode cX8_payBack 2 = .ok (.putfield 218, 3) := by decide +kernel
theorem dX8_payBack_5 : decode cX8_payBack 5 = .ok (.aload_n 1, 1) := by decide +kernel
theorem dX8_payBack_6 : decode cX8_payBack 6 = .ok (.getfield 128, 3) := by decide +kernel
theorem dX8_payBack_9 : decode cX8_payBack 9 = .ok (.dup, 1) := by decide +kernel
theorem dX8_payBack_10 : decode cX8_payBack 10 = .ok (.getfield 107, 3) := by decide +kernel
theorem dX8_payBack_13 : decode cX8_payBack 13 = .ok (.aload_n 1, 1) := by decide +kernel
theorem dX8_payBack_14 : decode cX8_payBack 14 = .ok (.getfield 150, 3) := by decide +kernel
theorem dX8_payBack_17 : decode cX8_payBack 17 = .ok (.isub, 1) := by decide +kernel
theorem dX8_payBack_18 : decode cX8_payBack 18 = .ok (.putfield 107, 3) := by decide +kernel
theorem dX8_payBack_21 : decode cX8_payBack 21 = .ok (.return_, 1) := by decide +kernel
theorem mcX8_payBack : x_mc yX8_payBack cX8_payBack 2 none 1 := ⟨wd_523, wd_1, by decide +kernel⟩
set_option maxHeartbeats 4000000 in
set_option maxRecDepth 100000 in
theorem kX8_payBack (l : Launch) (base : Nat) (D : va_G) (dA : Nat → ClassId) (F : Nat) (r0 : Option Nat) (r1 : Option Nat) : x_Met l base D dA yX8_payBack cX8_payBack 2 none 0 0 [va_rf r0, va_rf r1] (mX8_payBack F r0 r1) (fun _ => none) := by
  refine x_Met.of [(0, .inr (.inl r0)), (1, .inr (.inl r1))] (by decide) (Nat.le_of_ble_eq_true rfl) rfl rfl ?_
  intro p e R s m args below meth c σ a τ ls hfr hlo E hr hk hn S hM hl
  have E : x_E p s m args c cX8_payBack 2 "WireMoney" D dA := E
  unfold mX8_payBack at hM
  refine w_aload_n E hl 1 dX8_payBack_0 rfl ?_
  refine lv_iconst (v := (1 : Int32)) E.1 E.2.1 dX8_payBack_1 (by decide) ?_
  refine w_wZ E S hM lk_8_218 rfl (Or.inl rfl) dX8_payBack_2 (fun σ H locs S hM => ?_)
  refine w_aload_n E hl 1 dX8_payBack_5 rfl ?_
  refine w_rR E S hM lk_8_128 rfl dX8_payBack_6 (fun v6 hM => ?_)
  refine lv_dup E.1 E.2.1 dX8_payBack_9 (x_cat _) ?_
  refine w_rI E S hM lk_8_107 rfl dX8_payBack_10 (fun v10 hM => ?_)
  refine w_aload_n E hl 1 dX8_payBack_13 rfl ?_
  refine w_rI E S hM lk_8_150 rfl dX8_payBack_14 (fun v14 hM => ?_)
  refine lv_isub E.1 E.2.1 dX8_payBack_17 ?_
  refine w_wI E S hM lk_8_107 rfl (Or.inl rfl) dX8_payBack_18 (fun σ H locs S hM => ?_)
  exact w_vret E S hM hr hk dX8_payBack_21
theorem dX8_readRepeat_0 : decode cX8_readRepeat 0 = .ok (.aload_n 1, 1) := by decide +kernel
theorem dX8_readRepeat_1 : decode cX8_readRepeat 1 = .ok (.getfield 141, 3) := by decide +kernel
theorem dX8_readRepeat_4 : decode cX8_readRepeat 4 = .ok (.ifCond .ne 16, 3) := by decide +kernel
theorem dX8_readRepeat_7 : decode cX8_readRepeat 7 = .ok (.aload_n 1, 1) := by decide +kernel
theorem dX8_readRepeat_8 : decode cX8_readRepeat 8 = .ok (.getfield 144, 3) := by decide +kernel
theorem dX8_readRepeat_11 : decode cX8_readRepeat 11 = .ok (.ifCond .ne 9, 3) := by decide +kernel
theorem dX8_readRepeat_14 : decode cX8_readRepeat 14 = .ok (.aload_n 0, 1) := by decide +kernel
theorem dX8_readRepeat_15 : decode cX8_readRepeat 15 = .ok (.iconst 0, 1) := by decide +kernel
theorem dX8_readRepeat_16 : decode cX8_readRepeat 16 = .ok (.aload_n 1, 1) := by decide +kernel
theorem dX8_readRepeat_17 : decode cX8_readRepeat 17 = .ok (.invokevirtual 113, 3) := by decide +kernel
theorem dX8_readRepeat_20 : decode cX8_readRepeat 20 = .ok (.return_, 1) := by decide +kernel
theorem mcX8_readRepeat : x_mc yX8_readRepeat cX8_readRepeat 2 none 1 := ⟨wd_527, wd_1, by decide +kernel⟩
set_option maxHeartbeats 4000000 in
set_option maxRecDepth 100000 in
theorem kX8_readRepeat (l : Launch) (base : Nat) (D : va_G) (dA : Nat → ClassId) (F : Nat) (r0 : Option Nat) (r1 : Option Nat) : x_Met l base D dA yX8_readRepeat cX8_readRepeat 2 none 3 74 [va_rf r0, va_rf r1] (mX8_readRepeat F r0 r1) (fun _ => none) := by
  refine x_Met.of [(0, .inr (.inl r0)), (1, .inr (.inl r1))] (by decide) (Nat.le_of_ble_eq_true rfl) rfl rfl ?_
  intro p e R s m args below meth c σ a τ ls hfr hlo E hr hk hn S hM hl
  have E : x_E p s m args c cX8_readRepeat 2 "WireMoney" D dA := E
  unfold mX8_readRepeat at hM
  refine w_aload_n E hl 1 dX8_readRepeat_0 rfl ?_
  refine w_rI E S hM lk_8_141 rfl dX8_readRepeat_1 (fun v1 hM => ?_)
  refine lv_if_ne (tgt := 20) E.1 E.2.1 dX8_readRepeat_4 (by decide) (fun c4 => ?_) (fun c4 => ?_)
  · replace hM := x_okF hM c4
    exact w_vret E S hM hr hk dX8_readRepeat_20
  · replace hM := x_okT hM c4
    refine w_aload_n E hl 1 dX8_readRepeat_7 rfl ?_
    refine w_rI E S hM lk_8_144 rfl dX8_readRepeat_8 (fun v8 hM => ?_)
    refine lv_if_ne (tgt := 20) E.1 E.2.1 dX8_readRepeat_11 (by decide) (fun c11 => ?_) (fun c11 => ?_)
    · replace hM := x_okF hM c11
      exact w_vret E S hM hr hk dX8_readRepeat_20
    · replace hM := x_okT hM c11
      refine w_aload_n E hl 0 dX8_readRepeat_14 rfl ?_
      refine lv_iconst (v := (0 : Int32)) E.1 E.2.1 dX8_readRepeat_15 (by decide) ?_
      refine w_aload_n E hl 1 dX8_readRepeat_16 rfl ?_
      refine w_cVv (rest := []) E S hl hM (kX8_write l base D dA F r0 (0 : Int32) r1) mcX8_write ⟨by decide, rfl, wd_358, wd_360, wp_7⟩ hfr hlo (by decide) rfl (Nat.le_of_ble_eq_true rfl) dX8_readRepeat_17 rfl (fun σ H locs S hM => ?_)
      exact w_vret E S hM hr hk dX8_readRepeat_20
theorem dX8_read_0 : decode cX8_read 0 = .ok (.aload_n 1, 1) := by decide +kernel
theorem dX8_read_1 : decode cX8_read 1 = .ok (.aload_n 0, 1) := by decide +kernel
theorem dX8_read_2 : decode cX8_read 2 = .ok (.getfield 60, 3) := by decide +kernel
theorem dX8_read_5 : decode cX8_read 5 = .ok (.putfield 208, 3) := by decide +kernel
theorem dX8_read_8 : decode cX8_read 8 = .ok (.aload_n 1, 1) := by decide +kernel
theorem dX8_read_9 : decode cX8_read 9 = .ok (.getfield 195, 3) := by decide +kernel
theorem dX8_read_12 : decode cX8_read 12 = .ok (.tableswitch 58 0 2 #[28, 36, 47], 28) := by decide +kernel
theorem dX8_read_40 : decode cX8_read 40 = .ok (.aload_n 0, 1) := by decide +kernel
theorem dX8_read_41 : decode cX8_read 41 = .ok (.aload_n 1, 1) := by decide +kernel
theorem dX8_read_42 : decode cX8_read 42 = .ok (.invokevirtual 321, 3) := by decide +kernel
theorem dX8_read_45 : decode cX8_read 45 = .ok (.goto 33, 3) := by decide +kernel
theorem dX8_read_48 : decode cX8_read 48 = .ok (.aload_n 0, 1) := by decide +kernel
theorem dX8_read_49 : decode cX8_read 49 = .ok (.aload_n 1, 1) := by decide +kernel
theorem dX8_read_50 : decode cX8_read 50 = .ok (.getfield 198, 3) := by decide +kernel
theorem dX8_read_53 : decode cX8_read 53 = .ok (.invokevirtual 324, 3) := by decide +kernel
theorem dX8_read_56 : decode cX8_read 56 = .ok (.goto 22, 3) := by decide +kernel
theorem dX8_read_59 : decode cX8_read 59 = .ok (.aload_n 0, 1) := by decide +kernel
theorem dX8_read_60 : decode cX8_read 60 = .ok (.aload_n 1, 1) := by decide +kernel
theorem dX8_read_61 : decode cX8_read 61 = .ok (.getfield 198, 3) := by decide +kernel
theorem dX8_read_64 : decode cX8_read 64 = .ok (.invokevirtual 327, 3) := by decide +kernel
theorem dX8_read_67 : decode cX8_read 67 = .ok (.goto 11, 3) := by decide +kernel
theorem dX8_read_70 : decode cX8_read 70 = .ok (.aload_n 0, 1) := by decide +kernel
theorem dX8_read_71 : decode cX8_read 71 = .ok (.aload_n 1, 1) := by decide +kernel
theorem dX8_read_72 : decode cX8_read 72 = .ok (.getfield 198, 3) := by decide +kernel
theorem dX8_read_75 : decode cX8_read 75 = .ok (.invokevirtual 330, 3) := by decide +kernel
theorem dX8_read_78 : decode cX8_read 78 = .ok (.return_, 1) := by decide +kernel
theorem mcX8_read : x_mc yX8_read cX8_read 2 none 1 := ⟨wd_507, wd_1, by decide +kernel⟩
set_option maxHeartbeats 4000000 in
set_option maxRecDepth 100000 in
theorem kX8_read (l : Launch) (base : Nat) (D : va_G) (dA : Nat → ClassId) (F : Nat) (r0 : Option Nat) (r1 : Option Nat) : x_Met l base D dA yX8_read cX8_read 2 none 4 95 [va_rf r0, va_rf r1] (mX8_read F r0 r1) (fun _ => none) := by
  refine x_Met.of [(0, .inr (.inl r0)), (1, .inr (.inl r1))] (by decide) (Nat.le_of_ble_eq_true rfl) rfl rfl ?_
  intro p e R s m args below meth c σ a τ ls hfr hlo E hr hk hn S hM hl
  have E : x_E p s m args c cX8_read 2 "WireMoney" D dA := E
  unfold mX8_read at hM
  refine w_aload_n E hl 1 dX8_read_0 rfl ?_
  refine w_aload_n E hl 0 dX8_read_1 rfl ?_
  refine w_rI E S hM lk_8_60 rfl dX8_read_2 (fun v2 hM => ?_)
  refine w_wI E S hM lk_8_208 rfl (Or.inl rfl) dX8_read_5 (fun σ H locs S hM => ?_)
  refine w_aload_n E hl 1 dX8_read_8 rfl ?_
  refine w_rI E S hM lk_8_195 rfl dX8_read_9 (fun v9 hM => ?_)
  by_cases h12_0 : v9 = 0
  · replace hM := x_okT hM h12_0
    refine lv_tableIn (off := 28) (tgt := 40) E.1 E.2.1 dX8_read_12 (by rw [h12_0]; decide) (by rw [h12_0]; decide) (by rw [h12_0]; rfl) (by decide) ?_
    refine w_aload_n E hl 0 dX8_read_40 rfl ?_
    refine w_aload_n E hl 1 dX8_read_41 rfl ?_
    refine w_cVv (rest := []) E S hl hM (kX8_readPayment l base D dA F r0 r1) mcX8_readPayment ⟨by decide, rfl, wd_508, wd_510, wp_14⟩ hfr hlo (by decide) rfl (Nat.le_of_ble_eq_true rfl) dX8_read_42 rfl (fun σ H locs S hM => ?_)
    refine lv_goto (tgt := 78) E.1 E.2.1 dX8_read_45 (by decide) ?_
    exact w_vret E S hM hr hk dX8_read_78
  replace hM := x_okF hM h12_0
  by_cases h12_1 : v9 = 1
  · replace hM := x_okT hM h12_1
    refine lv_tableIn (off := 36) (tgt := 48) E.1 E.2.1 dX8_read_12 (by rw [h12_1]; decide) (by rw [h12_1]; decide) (by rw [h12_1]; rfl) (by decide) ?_
    refine w_aload_n E hl 0 dX8_read_48 rfl ?_
    refine w_aload_n E hl 1 dX8_read_49 rfl ?_
    refine w_rR E S hM lk_8_198 rfl dX8_read_50 (fun v50 hM => ?_)
    refine w_cVv (rest := []) E S hl hM (kX8_readStop l base D dA F r0 v50) mcX8_readStop ⟨by decide, rfl, wd_516, wd_518, wp_15⟩ hfr hlo (by decide) rfl (Nat.le_of_ble_eq_true rfl) dX8_read_53 rfl (fun σ H locs S hM => ?_)
    refine lv_goto (tgt := 78) E.1 E.2.1 dX8_read_56 (by decide) ?_
    exact w_vret E S hM hr hk dX8_read_78
  replace hM := x_okF hM h12_1
  by_cases h12_2 : v9 = 2
  · replace hM := x_okT hM h12_2
    refine lv_tableIn (off := 47) (tgt := 59) E.1 E.2.1 dX8_read_12 (by rw [h12_2]; decide) (by rw [h12_2]; decide) (by rw [h12_2]; rfl) (by decide) ?_
    refine w_aload_n E hl 0 dX8_read_59 rfl ?_
    refine w_aload_n E hl 1 dX8_read_60 rfl ?_
    refine w_rR E S hM lk_8_198 rfl dX8_read_61 (fun v61 hM => ?_)
    refine w_cVv (rest := []) E S hl hM (kX8_payBack l base D dA F r0 v61) mcX8_payBack ⟨by decide, rfl, wd_520, wd_522, wp_16⟩ hfr hlo (by decide) rfl (Nat.le_of_ble_eq_true rfl) dX8_read_64 rfl (fun σ H locs S hM => ?_)
    refine lv_goto (tgt := 78) E.1 E.2.1 dX8_read_67 (by decide) ?_
    exact w_vret E S hM hr hk dX8_read_78
  replace hM := x_okF hM h12_2
  have n12_0 := lv_neT (a := 0) h12_0 (by decide)
  have n12_1 := lv_neT (a := 1) h12_1 (by decide)
  have n12_2 := lv_neT (a := 2) h12_2 (by decide)
  refine lv_tableOut (tgt := 70) E.1 E.2.1 dX8_read_12 (by omega) (by decide) ?_
  refine w_aload_n E hl 0 dX8_read_70 rfl ?_
  refine w_aload_n E hl 1 dX8_read_71 rfl ?_
  refine w_rR E S hM lk_8_198 rfl dX8_read_72 (fun v72 hM => ?_)
  refine w_cVv (rest := []) E S hl hM (kX8_readRepeat l base D dA F r0 v72) mcX8_readRepeat ⟨by decide, rfl, wd_524, wd_526, wp_17⟩ hfr hlo (by decide) rfl (Nat.le_of_ble_eq_true rfl) dX8_read_75 rfl (fun σ H locs S hM => ?_)
  exact w_vret E S hM hr hk dX8_read_78
