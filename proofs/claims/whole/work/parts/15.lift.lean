theorem dX9_reckons_0 : decode cX9_reckons 0 = .ok (.iconst 0, 1) := by decide +kernel
theorem dX9_reckons_1 : decode cX9_reckons 1 = .ok (.istore_n 1, 1) := by decide +kernel
theorem dX9_reckons_2 : decode cX9_reckons 2 = .ok (.iload_n 1, 1) := by decide +kernel
theorem dX9_reckons_3 : decode cX9_reckons 3 = .ok (.bipush 100, 2) := by decide +kernel
theorem dX9_reckons_5 : decode cX9_reckons 5 = .ok (.if_icmp .ge 28, 3) := by decide +kernel
theorem dX9_reckons_8 : decode cX9_reckons 8 = .ok (.aload_n 0, 1) := by decide +kernel
theorem dX9_reckons_9 : decode cX9_reckons 9 = .ok (.getfield 40, 3) := by decide +kernel
theorem dX9_reckons_12 : decode cX9_reckons 12 = .ok (.iload_n 1, 1) := by decide +kernel
theorem dX9_reckons_13 : decode cX9_reckons 13 = .ok (.iload_n 1, 1) := by decide +kernel
theorem dX9_reckons_14 : decode cX9_reckons 14 = .ok (.bipush 11, 2) := by decide +kernel
theorem dX9_reckons_16 : decode cX9_reckons 16 = .ok (.irem, 1) := by decide +kernel
theorem dX9_reckons_17 : decode cX9_reckons 17 = .ok (.ifCond .ne 7, 3) := by decide +kernel
theorem dX9_reckons_20 : decode cX9_reckons 20 = .ok (.iconst 0, 1) := by decide +kernel
theorem dX9_reckons_21 : decode cX9_reckons 21 = .ok (.goto 5, 3) := by decide +kernel
theorem dX9_reckons_24 : decode cX9_reckons 24 = .ok (.ldc 145, 2) := by decide +kernel
theorem dX9_reckons_26 : decode cX9_reckons 26 = .ok (.iastore, 1) := by decide +kernel
theorem dX9_reckons_27 : decode cX9_reckons 27 = .ok (.iinc 1 1, 3) := by decide +kernel
theorem dX9_reckons_30 : decode cX9_reckons 30 = .ok (.goto (-28), 3) := by decide +kernel
theorem dX9_reckons_33 : decode cX9_reckons 33 = .ok (.iconst 1, 1) := by decide +kernel
theorem dX9_reckons_34 : decode cX9_reckons 34 = .ok (.istore_n 1, 1) := by decide +kernel
theorem dX9_reckons_35 : decode cX9_reckons 35 = .ok (.iload_n 1, 1) := by decide +kernel
theorem dX9_reckons_36 : decode cX9_reckons 36 = .ok (.ifCond .eq 158, 3) := by decide +kernel
theorem dX9_reckons_39 : decode cX9_reckons 39 = .ok (.iconst 0, 1) := by decide +kernel
theorem dX9_reckons_40 : decode cX9_reckons 40 = .ok (.istore_n 1, 1) := by decide +kernel
theorem dX9_reckons_41 : decode cX9_reckons 41 = .ok (.iconst 0, 1) := by decide +kernel
theorem dX9_reckons_42 : decode cX9_reckons 42 = .ok (.istore_n 2, 1) := by decide +kernel
theorem dX9_reckons_43 : decode cX9_reckons 43 = .ok (.iload_n 2, 1) := by decide +kernel
theorem dX9_reckons_44 : decode cX9_reckons 44 = .ok (.aload_n 0, 1) := by decide +kernel
theorem dX9_reckons_45 : decode cX9_reckons 45 = .ok (.getfield 149, 3) := by decide +kernel
theorem dX9_reckons_48 : decode cX9_reckons 48 = .ok (.if_icmp .ge 143, 3) := by decide +kernel
theorem dX9_reckons_51 : decode cX9_reckons 51 = .ok (.iconst 0, 1) := by decide +kernel
theorem dX9_reckons_52 : decode cX9_reckons 52 = .ok (.istore_n 3, 1) := by decide +kernel
theorem dX9_reckons_53 : decode cX9_reckons 53 = .ok (.iload_n 3, 1) := by decide +kernel
theorem dX9_reckons_54 : decode cX9_reckons 54 = .ok (.bipush 10, 2) := by decide +kernel
theorem dX9_reckons_56 : decode cX9_reckons 56 = .ok (.if_icmp .ge 129, 3) := by decide +kernel
theorem dX9_reckons_59 : decode cX9_reckons 59 = .ok (.bipush 10, 2) := by decide +kernel
theorem dX9_reckons_61 : decode cX9_reckons 61 = .ok (.aload_n 0, 1) := by decide +kernel
theorem dX9_reckons_62 : decode cX9_reckons 62 = .ok (.getfield 25, 3) := by decide +kernel
theorem dX9_reckons_65 : decode cX9_reckons 65 = .ok (.iload_n 2, 1) := by decide +kernel
theorem dX9_reckons_66 : decode cX9_reckons 66 = .ok (.iaload, 1) := by decide +kernel
theorem dX9_reckons_67 : decode cX9_reckons 67 = .ok (.imul, 1) := by decide +kernel
theorem dX9_reckons_68 : decode cX9_reckons 68 = .ok (.iload_n 3, 1) := by decide +kernel
theorem dX9_reckons_69 : decode cX9_reckons 69 = .ok (.iadd, 1) := by decide +kernel
theorem dX9_reckons_70 : decode cX9_reckons 70 = .ok (.istore 4, 2) := by decide +kernel
theorem dX9_reckons_72 : decode cX9_reckons 72 = .ok (.bipush 10, 2) := by decide +kernel
theorem dX9_reckons_74 : decode cX9_reckons 74 = .ok (.aload_n 0, 1) := by decide +kernel
theorem dX9_reckons_75 : decode cX9_reckons 75 = .ok (.getfield 28, 3) := by decide +kernel
theorem dX9_reckons_78 : decode cX9_reckons 78 = .ok (.iload_n 2, 1) := by decide +kernel
theorem dX9_reckons_79 : decode cX9_reckons 79 = .ok (.iaload, 1) := by decide +kernel
theorem dX9_reckons_80 : decode cX9_reckons 80 = .ok (.imul, 1) := by decide +kernel
theorem dX9_reckons_81 : decode cX9_reckons 81 = .ok (.iload_n 3, 1) := by decide +kernel
theorem dX9_reckons_82 : decode cX9_reckons 82 = .ok (.iadd, 1) := by decide +kernel
theorem dX9_reckons_83 : decode cX9_reckons 83 = .ok (.istore 5, 2) := by decide +kernel
theorem dX9_reckons_85 : decode cX9_reckons 85 = .ok (.aload_n 0, 1) := by decide +kernel
theorem dX9_reckons_86 : decode cX9_reckons 86 = .ok (.getfield 40, 3) := by decide +kernel
theorem dX9_reckons_89 : decode cX9_reckons 89 = .ok (.iload 5, 2) := by decide +kernel
theorem dX9_reckons_91 : decode cX9_reckons 91 = .ok (.iaload, 1) := by decide +kernel
theorem dX9_reckons_92 : decode cX9_reckons 92 = .ok (.aload_n 0, 1) := by decide +kernel
theorem dX9_reckons_93 : decode cX9_reckons 93 = .ok (.getfield 31, 3) := by decide +kernel
theorem dX9_reckons_96 : decode cX9_reckons 96 = .ok (.iload_n 2, 1) := by decide +kernel
theorem dX9_reckons_97 : decode cX9_reckons 97 = .ok (.iaload, 1) := by decide +kernel
theorem dX9_reckons_98 : decode cX9_reckons 98 = .ok (.iadd, 1) := by decide +kernel
theorem dX9_reckons_99 : decode cX9_reckons 99 = .ok (.aload_n 0, 1) := by decide +kernel
theorem dX9_reckons_100 : decode cX9_reckons 100 = .ok (.getfield 40, 3) := by decide +kernel
theorem dX9_reckons_103 : decode cX9_reckons 103 = .ok (.iload 4, 2) := by decide +kernel
theorem dX9_reckons_105 : decode cX9_reckons 105 = .ok (.iaload, 1) := by decide +kernel
theorem dX9_reckons_106 : decode cX9_reckons 106 = .ok (.if_icmp .ge 26, 3) := by decide +kernel
theorem dX9_reckons_109 : decode cX9_reckons 109 = .ok (.aload_n 0, 1) := by decide +kernel
theorem dX9_reckons_110 : decode cX9_reckons 110 = .ok (.getfield 40, 3) := by decide +kernel
theorem dX9_reckons_113 : decode cX9_reckons 113 = .ok (.iload 4, 2) := by decide +kernel
theorem dX9_reckons_115 : decode cX9_reckons 115 = .ok (.aload_n 0, 1) := by decide +kernel
theorem dX9_reckons_116 : decode cX9_reckons 116 = .ok (.getfield 40, 3) := by decide +kernel
theorem dX9_reckons_119 : decode cX9_reckons 119 = .ok (.iload 5, 2) := by decide +kernel
theorem dX9_reckons_121 : decode cX9_reckons 121 = .ok (.iaload, 1) := by decide +kernel
theorem dX9_reckons_122 : decode cX9_reckons 122 = .ok (.aload_n 0, 1) := by decide +kernel
theorem dX9_reckons_123 : decode cX9_reckons 123 = .ok (.getfield 31, 3) := by decide +kernel
theorem dX9_reckons_126 : decode cX9_reckons 126 = .ok (.iload_n 2, 1) := by decide +kernel
theorem dX9_reckons_127 : decode cX9_reckons 127 = .ok (.iaload, 1) := by decide +kernel
theorem dX9_reckons_128 : decode cX9_reckons 128 = .ok (.iadd, 1) := by decide +kernel
theorem dX9_reckons_129 : decode cX9_reckons 129 = .ok (.iastore, 1) := by decide +kernel
theorem dX9_reckons_130 : decode cX9_reckons 130 = .ok (.iconst 1, 1) := by decide +kernel
theorem dX9_reckons_131 : decode cX9_reckons 131 = .ok (.istore_n 1, 1) := by decide +kernel
theorem dX9_reckons_132 : decode cX9_reckons 132 = .ok (.aload_n 0, 1) := by decide +kernel
theorem dX9_reckons_133 : decode cX9_reckons 133 = .ok (.getfield 40, 3) := by decide +kernel
theorem dX9_reckons_136 : decode cX9_reckons 136 = .ok (.iload 4, 2) := by decide +kernel
theorem dX9_reckons_138 : decode cX9_reckons 138 = .ok (.iaload, 1) := by decide +kernel
theorem dX9_reckons_139 : decode cX9_reckons 139 = .ok (.aload_n 0, 1) := by decide +kernel
theorem dX9_reckons_140 : decode cX9_reckons 140 = .ok (.getfield 31, 3) := by decide +kernel
theorem dX9_reckons_143 : decode cX9_reckons 143 = .ok (.iload_n 2, 1) := by decide +kernel
theorem dX9_reckons_144 : decode cX9_reckons 144 = .ok (.iaload, 1) := by decide +kernel
theorem dX9_reckons_145 : decode cX9_reckons 145 = .ok (.iadd, 1) := by decide +kernel
theorem dX9_reckons_146 : decode cX9_reckons 146 = .ok (.aload_n 0, 1) := by decide +kernel
theorem dX9_reckons_147 : decode cX9_reckons 147 = .ok (.getfield 40, 3) := by decide +kernel
theorem dX9_reckons_150 : decode cX9_reckons 150 = .ok (.iload 5, 2) := by decide +kernel
theorem dX9_reckons_152 : decode cX9_reckons 152 = .ok (.iaload, 1) := by decide +kernel
theorem dX9_reckons_153 : decode cX9_reckons 153 = .ok (.if_icmp .ge 26, 3) := by decide +kernel
theorem dX9_reckons_156 : decode cX9_reckons 156 = .ok (.aload_n 0, 1) := by decide +kernel
theorem dX9_reckons_157 : decode cX9_reckons 157 = .ok (.getfield 40, 3) := by decide +kernel
theorem dX9_reckons_160 : decode cX9_reckons 160 = .ok (.iload 5, 2) := by decide +kernel
theorem dX9_reckons_162 : decode cX9_reckons 162 = .ok (.aload_n 0, 1) := by decide +kernel
theorem dX9_reckons_163 : decode cX9_reckons 163 = .ok (.getfield 40, 3) := by decide +kernel
theorem dX9_reckons_166 : decode cX9_reckons 166 = .ok (.iload 4, 2) := by decide +kernel
theorem dX9_reckons_168 : decode cX9_reckons 168 = .ok (.iaload, 1) := by decide +kernel
theorem dX9_reckons_169 : decode cX9_reckons 169 = .ok (.aload_n 0, 1) := by decide +kernel
theorem dX9_reckons_170 : decode cX9_reckons 170 = .ok (.getfield 31, 3) := by decide +kernel
theorem dX9_reckons_173 : decode cX9_reckons 173 = .ok (.iload_n 2, 1) := by decide +kernel
theorem dX9_reckons_174 : decode cX9_reckons 174 = .ok (.iaload, 1) := by decide +kernel
theorem dX9_reckons_175 : decode cX9_reckons 175 = .ok (.iadd, 1) := by decide +kernel
theorem dX9_reckons_176 : decode cX9_reckons 176 = .ok (.iastore, 1) := by decide +kernel
theorem dX9_reckons_177 : decode cX9_reckons 177 = .ok (.iconst 1, 1) := by decide +kernel
theorem dX9_reckons_178 : decode cX9_reckons 178 = .ok (.istore_n 1, 1) := by decide +kernel
theorem dX9_reckons_179 : decode cX9_reckons 179 = .ok (.iinc 3 1, 3) := by decide +kernel
theorem dX9_reckons_182 : decode cX9_reckons 182 = .ok (.goto (-129), 3) := by decide +kernel
theorem dX9_reckons_185 : decode cX9_reckons 185 = .ok (.iinc 2 1, 3) := by decide +kernel
theorem dX9_reckons_188 : decode cX9_reckons 188 = .ok (.goto (-145), 3) := by decide +kernel
theorem dX9_reckons_191 : decode cX9_reckons 191 = .ok (.goto (-156), 3) := by decide +kernel
theorem dX9_reckons_194 : decode cX9_reckons 194 = .ok (.return_, 1) := by decide +kernel
set_option maxHeartbeats 4000000 in
set_option maxRecDepth 100000 in
theorem bX9_reckons_J {p : Program} {l : Launch} {e : Env} {R : Room} {s : State} {m : MethodId} {args : Array Value} {below : List Frame} {meth : Method} {c : Code} {base : Nat} {D : va_G} {dA : Nat → ClassId} {σ0 : PH} {z : Unit × PH} (E : x_E p s m args c cX9_reckons 6 "WireMoneyModel" D dA) (hr : meth.sig.returnType = none) (hk : meth.locks = false) (hfr : R.frames = 0) (hlo : R.locals = 0) (F : Nat) : ∀ n : Nat, (∀ (y0 : Option Nat) (y1 : Int32) (y2 : Int32) (y3 : Int32) (y4 : Int32) (y5 : Int32) (σ : PH) (H : Heap) (locs : List Loc) (ls : Array Slot), x_S base D dA R s σ0 z.2 σ H locs → x_rn (mX9_reckons_J F n 0 y0 y1 y2 y3 y4 y5) σ = some z → x_lv ls 6 [(0, .inr (.inl y0)), (1, .inl y1)] → W p l e R s m args below meth c H locs (x_N σ - x_N σ0) (x_U σ - x_U σ0) (x_end below args s base D dA (fun _ => none) σ0 z) (F0 m 35 ls [])) ∧ (∀ (y0 : Option Nat) (y1 : Int32) (y2 : Int32) (y3 : Int32) (y4 : Int32) (y5 : Int32) (σ : PH) (H : Heap) (locs : List Loc) (ls : Array Slot), x_S base D dA R s σ0 z.2 σ H locs → x_rn (mX9_reckons_J F n 1 y0 y1 y2 y3 y4 y5) σ = some z → x_lv ls 6 [(0, .inr (.inl y0)), (1, .inl y1), (2, .inl y2)] → W p l e R s m args below meth c H locs (x_N σ - x_N σ0) (x_U σ - x_U σ0) (x_end below args s base D dA (fun _ => none) σ0 z) (F0 m 43 ls [])) ∧ (∀ (y0 : Option Nat) (y1 : Int32) (y2 : Int32) (y3 : Int32) (y4 : Int32) (y5 : Int32) (σ : PH) (H : Heap) (locs : List Loc) (ls : Array Slot), x_S base D dA R s σ0 z.2 σ H locs → x_rn (mX9_reckons_J F n 2 y0 y1 y2 y3 y4 y5) σ = some z → x_lv ls 6 [(0, .inr (.inl y0)), (1, .inl y1), (2, .inl y2), (3, .inl y3)] → W p l e R s m args below meth c H locs (x_N σ - x_N σ0) (x_U σ - x_U σ0) (x_end below args s base D dA (fun _ => none) σ0 z) (F0 m 53 ls [])) ∧ (∀ (y0 : Option Nat) (y1 : Int32) (y2 : Int32) (y3 : Int32) (y4 : Int32) (y5 : Int32) (σ : PH) (H : Heap) (locs : List Loc) (ls : Array Slot), x_S base D dA R s σ0 z.2 σ H locs → x_rn (mX9_reckons_J F n 3 y0 y1 y2 y3 y4 y5) σ = some z → x_lv ls 6 [(0, .inr (.inl y0)), (1, .inl y1), (2, .inl y2), (3, .inl y3), (4, .inl y4), (5, .inl y5)] → W p l e R s m args below meth c H locs (x_N σ - x_N σ0) (x_U σ - x_U σ0) (x_end below args s base D dA (fun _ => none) σ0 z) (F0 m 132 ls [])) := by
  intro n
  induction n with
  | zero =>
    refine ⟨?_, ?_, ?_, ?_⟩ <;> (intro y0 y1 y2 y3 y4 y5 σ H locs ls S hM hl; cases hM)
  | succ n ih =>
    refine ⟨?_, ?_, ?_, ?_⟩
    · intro y0 y1 y2 y3 y4 y5 σ H locs ls S hM hl
      rw [mX9_reckons_J] at hM
      replace hM := x_okT hM rfl
      refine w_iload_n E hl 1 dX9_reckons_35 rfl ?_
      refine lv_if_eq (tgt := 194) E.1 E.2.1 dX9_reckons_36 (by decide) (fun c36 => ?_) (fun c36 => ?_)
      · replace hM := x_okT hM c36
        exact w_vret E S hM hr hk dX9_reckons_194
      · replace hM := x_okF hM c36
        refine lv_iconst (v := (0 : Int32)) E.1 E.2.1 dX9_reckons_39 (by decide) ?_
        refine w_istore_n (lt' := [(1, .inl (0 : Int32)), (0, .inr (.inl y0))]) E hl dX9_reckons_40 (by decide) rfl (fun ls hl => ?_)
        refine lv_iconst (v := (0 : Int32)) E.1 E.2.1 dX9_reckons_41 (by decide) ?_
        refine w_istore_n (lt' := [(2, .inl (0 : Int32)), (1, .inl (0 : Int32)), (0, .inr (.inl y0))]) E hl dX9_reckons_42 (by decide) rfl (fun ls hl => ?_)
        exact ih.2.1 y0 (0 : Int32) (0 : Int32) (0 : Int32) (0 : Int32) (0 : Int32) _ _ _ _ S hM (x_lv_sub hl [2, 1, 0] rfl)
    · intro y0 y1 y2 y3 y4 y5 σ H locs ls S hM hl
      rw [mX9_reckons_J] at hM
      replace hM := x_okF hM (by decide)
      replace hM := x_okT hM rfl
      refine w_iload_n E hl 2 dX9_reckons_43 rfl ?_
      refine w_aload_n E hl 0 dX9_reckons_44 rfl ?_
      refine w_rI E S hM lk_9_149 rfl dX9_reckons_45 (fun v45 hM => ?_)
      refine lv_icmp_ge (tgt := 191) E.1 E.2.1 dX9_reckons_48 (by decide) (fun c48 => ?_) (fun c48 => ?_)
      · replace hM := x_okT hM c48
        refine lv_goto (tgt := 35) E.1 E.2.1 dX9_reckons_191 (by decide) ?_
        exact ih.1 y0 y1 (0 : Int32) (0 : Int32) (0 : Int32) (0 : Int32) _ _ _ _ S hM (x_lv_sub hl [0, 1] rfl)
      · replace hM := x_okF hM c48
        refine lv_iconst (v := (0 : Int32)) E.1 E.2.1 dX9_reckons_51 (by decide) ?_
        refine w_istore_n (lt' := [(3, .inl (0 : Int32)), (0, .inr (.inl y0)), (1, .inl y1), (2, .inl y2)]) E hl dX9_reckons_52 (by decide) rfl (fun ls hl => ?_)
        exact ih.2.2.1 y0 y1 y2 (0 : Int32) (0 : Int32) (0 : Int32) _ _ _ _ S hM (x_lv_sub hl [1, 2, 3, 0] rfl)
    · intro y0 y1 y2 y3 y4 y5 σ H locs ls S hM hl
      rw [mX9_reckons_J] at hM
      replace hM := x_okF hM (by decide)
      replace hM := x_okF hM (by decide)
      replace hM := x_okT hM rfl
      refine w_iload_n E hl 3 dX9_reckons_53 rfl ?_
      refine lv_bipush (v := (10 : Int32)) E.1 E.2.1 dX9_reckons_54 (by decide) ?_
      refine lv_icmp_ge (tgt := 185) E.1 E.2.1 dX9_reckons_56 (by decide) (fun c56 => ?_) (fun c56 => ?_)
      · replace hM := x_okT hM c56
        refine w_iincN (ltf := fun v185 => [(2, .inl v185), (0, .inr (.inl y0)), (1, .inl y1), (3, .inl y3)]) E hl 2 hM dX9_reckons_185 rfl (by decide) (by decide) (fun _ => rfl) (fun v185 ls hM hl => ?_)
        refine lv_goto (tgt := 43) E.1 E.2.1 dX9_reckons_188 (by decide) ?_
        exact ih.2.1 y0 y1 v185 (0 : Int32) (0 : Int32) (0 : Int32) _ _ _ _ S hM (x_lv_sub hl [1, 2, 0] rfl)
      · replace hM := x_okF hM c56
        refine lv_bipush (v := (10 : Int32)) E.1 E.2.1 dX9_reckons_59 (by decide) ?_
        refine w_aload_n E hl 0 dX9_reckons_61 rfl ?_
        refine w_rR E S hM lk_9_25 rfl dX9_reckons_62 (fun v62 hM => ?_)
        refine w_iload_n E hl 2 dX9_reckons_65 rfl ?_
        refine w_aI E S hM dX9_reckons_66 (fun v66 hM => ?_)
        refine lv_imul E.1 E.2.1 dX9_reckons_67 ?_
        refine w_iload_n E hl 3 dX9_reckons_68 rfl ?_
        refine lv_iadd E.1 E.2.1 dX9_reckons_69 ?_
        refine w_nm hM (fun v70 hM => ?_)
        refine w_istore (lt' := [(4, .inl v70), (0, .inr (.inl y0)), (1, .inl y1), (2, .inl y2), (3, .inl y3)]) E hl dX9_reckons_70 (by decide) rfl (fun ls hl => ?_)
        refine lv_bipush (v := (10 : Int32)) E.1 E.2.1 dX9_reckons_72 (by decide) ?_
        refine w_aload_n E hl 1 dX9_reckons_74 rfl ?_
        refine w_rR E S hM lk_9_28 rfl dX9_reckons_75 (fun v75 hM => ?_)
        refine w_iload_n E hl 3 dX9_reckons_78 rfl ?_
        refine w_aI E S hM dX9_reckons_79 (fun v79 hM => ?_)
        refine lv_imul E.1 E.2.1 dX9_reckons_80 ?_
        refine w_iload_n E hl 4 dX9_reckons_81 rfl ?_
        refine lv_iadd E.1 E.2.1 dX9_reckons_82 ?_
        refine w_nm hM (fun v83 hM => ?_)
        refine w_istore (lt' := [(5, .inl v83), (4, .inl v70), (0, .inr (.inl y0)), (1, .inl y1), (2, .inl y2), (3, .inl y3)]) E hl dX9_reckons_83 (by decide) rfl (fun ls hl => ?_)
        refine w_aload_n E hl 2 dX9_reckons_85 rfl ?_
        refine w_rR E S hM lk_9_40 rfl dX9_reckons_86 (fun v86 hM => ?_)
        refine w_iload E hl 0 dX9_reckons_89 rfl ?_
        refine w_aI E S hM dX9_reckons_91 (fun v91 hM => ?_)
        refine w_aload_n E hl 2 dX9_reckons_92 rfl ?_
        refine w_rR E S hM lk_9_31 rfl dX9_reckons_93 (fun v93 hM => ?_)
        refine w_iload_n E hl 4 dX9_reckons_96 rfl ?_
        refine w_aI E S hM dX9_reckons_97 (fun v97 hM => ?_)
        refine lv_iadd E.1 E.2.1 dX9_reckons_98 ?_
        refine w_aload_n E hl 2 dX9_reckons_99 rfl ?_
        refine w_rR E S hM lk_9_40 rfl dX9_reckons_100 (fun v100 hM => ?_)
        refine w_iload E hl 1 dX9_reckons_103 rfl ?_
        refine w_aI E S hM dX9_reckons_105 (fun v105 hM => ?_)
        refine lv_icmp_ge (tgt := 132) E.1 E.2.1 dX9_reckons_106 (by decide) (fun c106 => ?_) (fun c106 => ?_)
        · replace hM := x_okT hM c106
          exact ih.2.2.2 y0 y1 y2 y3 v70 v83 _ _ _ _ S hM (x_lv_sub hl [2, 3, 4, 5, 1, 0] rfl)
        · replace hM := x_okF hM c106
          refine w_aload_n E hl 2 dX9_reckons_109 rfl ?_
          refine w_rR E S hM lk_9_40 rfl dX9_reckons_110 (fun v110 hM => ?_)
          refine w_iload E hl 1 dX9_reckons_113 rfl ?_
          refine w_aload_n E hl 2 dX9_reckons_115 rfl ?_
          refine w_rR E S hM lk_9_40 rfl dX9_reckons_116 (fun v116 hM => ?_)
          refine w_iload E hl 0 dX9_reckons_119 rfl ?_
          refine w_aI E S hM dX9_reckons_121 (fun v121 hM => ?_)
          refine w_aload_n E hl 2 dX9_reckons_122 rfl ?_
          refine w_rR E S hM lk_9_31 rfl dX9_reckons_123 (fun v123 hM => ?_)
          refine w_iload_n E hl 4 dX9_reckons_126 rfl ?_
          refine w_aI E S hM dX9_reckons_127 (fun v127 hM => ?_)
          refine lv_iadd E.1 E.2.1 dX9_reckons_128 ?_
          refine w_sI E S hM dX9_reckons_129 (fun σ H locs S hM => ?_)
          refine lv_iconst (v := (1 : Int32)) E.1 E.2.1 dX9_reckons_130 (by decide) ?_
          refine w_istore_n (lt' := [(1, .inl (1 : Int32)), (5, .inl v83), (4, .inl v70), (0, .inr (.inl y0)), (2, .inl y2), (3, .inl y3)]) E hl dX9_reckons_131 (by decide) rfl (fun ls hl => ?_)
          exact ih.2.2.2 y0 (1 : Int32) y2 y3 v70 v83 _ _ _ _ S hM (x_lv_sub hl [3, 0, 4, 5, 2, 1] rfl)
    · intro y0 y1 y2 y3 y4 y5 σ H locs ls S hM hl
      rw [mX9_reckons_J] at hM
      replace hM := x_okF hM (by decide)
      replace hM := x_okF hM (by decide)
      replace hM := x_okF hM (by decide)
      replace hM := x_okT hM rfl
      refine w_aload_n E hl 0 dX9_reckons_132 rfl ?_
      refine w_rR E S hM lk_9_40 rfl dX9_reckons_133 (fun v133 hM => ?_)
      refine w_iload E hl 4 dX9_reckons_136 rfl ?_
      refine w_aI E S hM dX9_reckons_138 (fun v138 hM => ?_)
      refine w_aload_n E hl 0 dX9_reckons_139 rfl ?_
      refine w_rR E S hM lk_9_31 rfl dX9_reckons_140 (fun v140 hM => ?_)
      refine w_iload_n E hl 2 dX9_reckons_143 rfl ?_
      refine w_aI E S hM dX9_reckons_144 (fun v144 hM => ?_)
      refine lv_iadd E.1 E.2.1 dX9_reckons_145 ?_
      refine w_aload_n E hl 0 dX9_reckons_146 rfl ?_
      refine w_rR E S hM lk_9_40 rfl dX9_reckons_147 (fun v147 hM => ?_)
      refine w_iload E hl 5 dX9_reckons_150 rfl ?_
      refine w_aI E S hM dX9_reckons_152 (fun v152 hM => ?_)
      refine lv_icmp_ge (tgt := 179) E.1 E.2.1 dX9_reckons_153 (by decide) (fun c153 => ?_) (fun c153 => ?_)
      · replace hM := x_okT hM c153
        refine w_iincN (ltf := fun v179 => [(3, .inl v179), (0, .inr (.inl y0)), (1, .inl y1), (2, .inl y2), (4, .inl y4), (5, .inl y5)]) E hl 3 hM dX9_reckons_179 rfl (by decide) (by decide) (fun _ => rfl) (fun v179 ls hM hl => ?_)
        refine lv_goto (tgt := 53) E.1 E.2.1 dX9_reckons_182 (by decide) ?_
        exact ih.2.2.1 y0 y1 y2 v179 (0 : Int32) (0 : Int32) _ _ _ _ S hM (x_lv_sub hl [1, 2, 3, 0] rfl)
      · replace hM := x_okF hM c153
        refine w_aload_n E hl 0 dX9_reckons_156 rfl ?_
        refine w_rR E S hM lk_9_40 rfl dX9_reckons_157 (fun v157 hM => ?_)
        refine w_iload E hl 5 dX9_reckons_160 rfl ?_
        refine w_aload_n E hl 0 dX9_reckons_162 rfl ?_
        refine w_rR E S hM lk_9_40 rfl dX9_reckons_163 (fun v163 hM => ?_)
        refine w_iload E hl 4 dX9_reckons_166 rfl ?_
        refine w_aI E S hM dX9_reckons_168 (fun v168 hM => ?_)
        refine w_aload_n E hl 0 dX9_reckons_169 rfl ?_
        refine w_rR E S hM lk_9_31 rfl dX9_reckons_170 (fun v170 hM => ?_)
        refine w_iload_n E hl 2 dX9_reckons_173 rfl ?_
        refine w_aI E S hM dX9_reckons_174 (fun v174 hM => ?_)
        refine lv_iadd E.1 E.2.1 dX9_reckons_175 ?_
        refine w_sI E S hM dX9_reckons_176 (fun σ H locs S hM => ?_)
        refine lv_iconst (v := (1 : Int32)) E.1 E.2.1 dX9_reckons_177 (by decide) ?_
        refine w_istore_n (lt' := [(1, .inl (1 : Int32)), (0, .inr (.inl y0)), (2, .inl y2), (3, .inl y3), (4, .inl y4), (5, .inl y5)]) E hl dX9_reckons_178 (by decide) rfl (fun ls hl => ?_)
        refine w_iincN (ltf := fun v179 => [(3, .inl v179), (1, .inl (1 : Int32)), (0, .inr (.inl y0)), (2, .inl y2), (4, .inl y4), (5, .inl y5)]) E hl 3 hM dX9_reckons_179 rfl (by decide) (by decide) (fun _ => rfl) (fun v179 ls hM hl => ?_)
        refine lv_goto (tgt := 53) E.1 E.2.1 dX9_reckons_182 (by decide) ?_
        exact ih.2.2.1 y0 (1 : Int32) y2 v179 (0 : Int32) (0 : Int32) _ _ _ _ S hM (x_lv_sub hl [2, 1, 3, 0] rfl)
set_option maxHeartbeats 4000000 in
set_option maxRecDepth 100000 in
theorem bX9_reckons_2 {p : Program} {l : Launch} {e : Env} {R : Room} {s : State} {m : MethodId} {args : Array Value} {below : List Frame} {meth : Method} {c : Code} {base : Nat} {D : va_G} {dA : Nat → ClassId} {σ0 : PH} {z : Unit × PH} {F : Nat} (E : x_E p s m args c cX9_reckons 6 "WireMoneyModel" D dA) (hr : meth.sig.returnType = none) (hk : meth.locks = false) (hfr : R.frames = 0) (hlo : R.locals = 0) : ∀ (n : Nat) (y0 : Option Nat) (y1 : Int32) (σ : PH) (H : Heap) (locs : List Loc) (ls : Array Slot), x_S base D dA R s σ0 z.2 σ H locs → x_rn (mX9_reckons_2 F n y0 y1) σ = some z → x_lv ls 6 [(0, .inr (.inl y0)), (1, .inl y1)] → W p l e R s m args below meth c H locs (x_N σ - x_N σ0) (x_U σ - x_U σ0) (x_end below args s base D dA (fun _ => none) σ0 z) (F0 m 2 ls []) := by
  intro n
  induction n with
  | zero =>
    intro y0 y1 σ H locs ls S hM hl
    cases hM
  | succ n ih =>
    intro y0 y1 σ H locs ls S hM hl
    rw [mX9_reckons_2] at hM
    refine w_iload_n E hl 1 dX9_reckons_2 rfl ?_
    refine lv_bipush (v := (100 : Int32)) E.1 E.2.1 dX9_reckons_3 (by decide) ?_
    refine lv_icmp_ge (tgt := 33) E.1 E.2.1 dX9_reckons_5 (by decide) (fun c5 => ?_) (fun c5 => ?_)
    · replace hM := x_okT hM c5
      refine lv_iconst (v := (1 : Int32)) E.1 E.2.1 dX9_reckons_33 (by decide) ?_
      refine w_istore_n (lt' := [(1, .inl (1 : Int32)), (0, .inr (.inl y0))]) E hl dX9_reckons_34 (by decide) rfl (fun ls hl => ?_)
      exact (bX9_reckons_J E hr hk hfr hlo F F).1 y0 (1 : Int32) (0 : Int32) (0 : Int32) (0 : Int32) (0 : Int32) _ _ _ _ S hM (x_lv_sub hl [1, 0] rfl)
    · replace hM := x_okF hM c5
      refine w_aload_n E hl 0 dX9_reckons_8 rfl ?_
      refine w_rR E S hM lk_9_40 rfl dX9_reckons_9 (fun v9 hM => ?_)
      refine w_iload_n E hl 1 dX9_reckons_12 rfl ?_
      refine w_iload_n E hl 1 dX9_reckons_13 rfl ?_
      refine lv_bipush (v := (11 : Int32)) E.1 E.2.1 dX9_reckons_14 (by decide) ?_
      refine w_irem E dX9_reckons_16 (by decide) ?_
      refine lv_if_ne (tgt := 24) E.1 E.2.1 dX9_reckons_17 (by decide) (fun c17 => ?_) (fun c17 => ?_)
      · replace hM := x_okF hM c17
        refine w_ldc (v := (1000000 : Int32)) E wd_605 dX9_reckons_24 ?_
        refine w_sI E S hM dX9_reckons_26 (fun σ H locs S hM => ?_)
        refine w_iincN (ltf := fun v27 => [(1, .inl v27), (0, .inr (.inl y0))]) E hl 1 hM dX9_reckons_27 rfl (by decide) (by decide) (fun _ => rfl) (fun v27 ls hM hl => ?_)
        refine lv_goto (tgt := 2) E.1 E.2.1 dX9_reckons_30 (by decide) ?_
        exact ih y0 v27 _ _ _ _ S hM (x_lv_sub hl [1, 0] rfl)
      · replace hM := x_okT hM c17
        refine lv_iconst (v := (0 : Int32)) E.1 E.2.1 dX9_reckons_20 (by decide) ?_
        refine lv_goto (tgt := 26) E.1 E.2.1 dX9_reckons_21 (by decide) ?_
        refine w_sI E S hM dX9_reckons_26 (fun σ H locs S hM => ?_)
        refine w_iincN (ltf := fun v27 => [(1, .inl v27), (0, .inr (.inl y0))]) E hl 1 hM dX9_reckons_27 rfl (by decide) (by decide) (fun _ => rfl) (fun v27 ls hM hl => ?_)
        refine lv_goto (tgt := 2) E.1 E.2.1 dX9_reckons_30 (by decide) ?_
        exact ih y0 v27 _ _ _ _ S hM (x_lv_sub hl [1, 0] rfl)
theorem mcX9_reckons : x_mc yX9_reckons cX9_reckons 6 none 0 := ⟨wd_604, wd_4, by decide +kernel⟩
set_option maxHeartbeats 4000000 in
set_option maxRecDepth 100000 in
theorem kX9_reckons (l : Launch) (base : Nat) (D : va_G) (dA : Nat → ClassId) (F : Nat) (r0 : Option Nat) : x_Met l base D dA yX9_reckons cX9_reckons 6 none 0 0 [va_rf r0] (mX9_reckons F r0) (fun _ => none) := by
  refine x_Met.of [(0, .inr (.inl r0))] (by decide) (Nat.le_of_ble_eq_true rfl) rfl rfl ?_
  intro p e R s m args below meth c σ a τ ls hfr hlo E hr hk hn S hM hl
  have E : x_E p s m args c cX9_reckons 6 "WireMoneyModel" D dA := E
  unfold mX9_reckons at hM
  refine lv_iconst (v := (0 : Int32)) E.1 E.2.1 dX9_reckons_0 (by decide) ?_
  refine w_istore_n (lt' := [(1, .inl (0 : Int32)), (0, .inr (.inl r0))]) E hl dX9_reckons_1 (by decide) rfl (fun ls hl => ?_)
  exact bX9_reckons_2 E hr hk hfr hlo F r0 (0 : Int32) _ _ _ _ S hM (x_lv_sub hl [1, 0] rfl)
theorem dX9_init_0 : decode cX9_init 0 = .ok (.aload_n 0, 1) := by decide +kernel
theorem dX9_init_1 : decode cX9_init 1 = .ok (.invokespecial 1, 3) := by decide +kernel
theorem dX9_init_4 : decode cX9_init 4 = .ok (.aload_n 0, 1) := by decide +kernel
theorem dX9_init_5 : decode cX9_init 5 = .ok (.bipush 10, 2) := by decide +kernel
theorem dX9_init_7 : decode cX9_init 7 = .ok (.newarray .int, 2) := by decide +kernel
theorem dX9_init_9 : decode cX9_init 9 = .ok (.putfield 9, 3) := by decide +kernel
theorem dX9_init_12 : decode cX9_init 12 = .ok (.aload_n 0, 1) := by decide +kernel
theorem dX9_init_13 : decode cX9_init 13 = .ok (.bipush 10, 2) := by decide +kernel
theorem dX9_init_15 : decode cX9_init 15 = .ok (.newarray .int, 2) := by decide +kernel
theorem dX9_init_17 : decode cX9_init 17 = .ok (.putfield 13, 3) := by decide +kernel
theorem dX9_init_20 : decode cX9_init 20 = .ok (.aload_n 0, 1) := by decide +kernel
theorem dX9_init_21 : decode cX9_init 21 = .ok (.bipush 10, 2) := by decide +kernel
theorem dX9_init_23 : decode cX9_init 23 = .ok (.newarray .int, 2) := by decide +kernel
theorem dX9_init_25 : decode cX9_init 25 = .ok (.putfield 16, 3) := by decide +kernel
theorem dX9_init_28 : decode cX9_init 28 = .ok (.aload_n 0, 1) := by decide +kernel
theorem dX9_init_29 : decode cX9_init 29 = .ok (.bipush 10, 2) := by decide +kernel
theorem dX9_init_31 : decode cX9_init 31 = .ok (.newarray .int, 2) := by decide +kernel
theorem dX9_init_33 : decode cX9_init 33 = .ok (.putfield 19, 3) := by decide +kernel
theorem dX9_init_36 : decode cX9_init 36 = .ok (.aload_n 0, 1) := by decide +kernel
theorem dX9_init_37 : decode cX9_init 37 = .ok (.bipush 10, 2) := by decide +kernel
theorem dX9_init_39 : decode cX9_init 39 = .ok (.newarray .int, 2) := by decide +kernel
theorem dX9_init_41 : decode cX9_init 41 = .ok (.putfield 22, 3) := by decide +kernel
theorem dX9_init_44 : decode cX9_init 44 = .ok (.aload_n 0, 1) := by decide +kernel
theorem dX9_init_45 : decode cX9_init 45 = .ok (.bipush 15, 2) := by decide +kernel
theorem dX9_init_47 : decode cX9_init 47 = .ok (.newarray .int, 2) := by decide +kernel
theorem dX9_init_49 : decode cX9_init 49 = .ok (.putfield 25, 3) := by decide +kernel
theorem dX9_init_52 : decode cX9_init 52 = .ok (.aload_n 0, 1) := by decide +kernel
theorem dX9_init_53 : decode cX9_init 53 = .ok (.bipush 15, 2) := by decide +kernel
theorem dX9_init_55 : decode cX9_init 55 = .ok (.newarray .int, 2) := by decide +kernel
theorem dX9_init_57 : decode cX9_init 57 = .ok (.putfield 28, 3) := by decide +kernel
theorem dX9_init_60 : decode cX9_init 60 = .ok (.aload_n 0, 1) := by decide +kernel
theorem dX9_init_61 : decode cX9_init 61 = .ok (.bipush 15, 2) := by decide +kernel
theorem dX9_init_63 : decode cX9_init 63 = .ok (.newarray .int, 2) := by decide +kernel
theorem dX9_init_65 : decode cX9_init 65 = .ok (.putfield 31, 3) := by decide +kernel
theorem dX9_init_68 : decode cX9_init 68 = .ok (.aload_n 0, 1) := by decide +kernel
theorem dX9_init_69 : decode cX9_init 69 = .ok (.bipush 15, 2) := by decide +kernel
theorem dX9_init_71 : decode cX9_init 71 = .ok (.newarray .int, 2) := by decide +kernel
theorem dX9_init_73 : decode cX9_init 73 = .ok (.putfield 34, 3) := by decide +kernel
theorem dX9_init_76 : decode cX9_init 76 = .ok (.aload_n 0, 1) := by decide +kernel
theorem dX9_init_77 : decode cX9_init 77 = .ok (.bipush 15, 2) := by decide +kernel
theorem dX9_init_79 : decode cX9_init 79 = .ok (.newarray .int, 2) := by decide +kernel
theorem dX9_init_81 : decode cX9_init 81 = .ok (.putfield 37, 3) := by decide +kernel
theorem dX9_init_84 : decode cX9_init 84 = .ok (.aload_n 0, 1) := by decide +kernel
theorem dX9_init_85 : decode cX9_init 85 = .ok (.bipush 100, 2) := by decide +kernel
theorem dX9_init_87 : decode cX9_init 87 = .ok (.newarray .int, 2) := by decide +kernel
theorem dX9_init_89 : decode cX9_init 89 = .ok (.putfield 40, 3) := by decide +kernel
theorem dX9_init_92 : decode cX9_init 92 = .ok (.aload_n 0, 1) := by decide +kernel
theorem dX9_init_93 : decode cX9_init 93 = .ok (.bipush 8, 2) := by decide +kernel
theorem dX9_init_95 : decode cX9_init 95 = .ok (.newarray .int, 2) := by decide +kernel
theorem dX9_init_97 : decode cX9_init 97 = .ok (.putfield 43, 3) := by decide +kernel
theorem dX9_init_100 : decode cX9_init 100 = .ok (.aload_n 0, 1) := by decide +kernel
theorem dX9_init_101 : decode cX9_init 101 = .ok (.bipush 8, 2) := by decide +kernel
theorem dX9_init_103 : decode cX9_init 103 = .ok (.newarray .int, 2) := by decide +kernel
theorem dX9_init_105 : decode cX9_init 105 = .ok (.putfield 46, 3) := by decide +kernel
theorem dX9_init_108 : decode cX9_init 108 = .ok (.aload_n 0, 1) := by decide +kernel
theorem dX9_init_109 : decode cX9_init 109 = .ok (.sipush 200, 3) := by decide +kernel
theorem dX9_init_112 : decode cX9_init 112 = .ok (.newarray .int, 2) := by decide +kernel
theorem dX9_init_114 : decode cX9_init 114 = .ok (.putfield 49, 3) := by decide +kernel
theorem dX9_init_117 : decode cX9_init 117 = .ok (.aload_n 0, 1) := by decide +kernel
theorem dX9_init_118 : decode cX9_init 118 = .ok (.sipush 200, 3) := by decide +kernel
theorem dX9_init_121 : decode cX9_init 121 = .ok (.newarray .int, 2) := by decide +kernel
theorem dX9_init_123 : decode cX9_init 123 = .ok (.putfield 52, 3) := by decide +kernel
theorem dX9_init_126 : decode cX9_init 126 = .ok (.aload_n 0, 1) := by decide +kernel
theorem dX9_init_127 : decode cX9_init 127 = .ok (.sipush 200, 3) := by decide +kernel
theorem dX9_init_130 : decode cX9_init 130 = .ok (.newarray .int, 2) := by decide +kernel
theorem dX9_init_132 : decode cX9_init 132 = .ok (.putfield 55, 3) := by decide +kernel
theorem dX9_init_135 : decode cX9_init 135 = .ok (.aload_n 0, 1) := by decide +kernel
theorem dX9_init_136 : decode cX9_init 136 = .ok (.sipush 200, 3) := by decide +kernel
theorem dX9_init_139 : decode cX9_init 139 = .ok (.newarray .int, 2) := by decide +kernel
theorem dX9_init_141 : decode cX9_init 141 = .ok (.putfield 58, 3) := by decide +kernel
theorem dX9_init_144 : decode cX9_init 144 = .ok (.aload_n 0, 1) := by decide +kernel
theorem dX9_init_145 : decode cX9_init 145 = .ok (.sipush 200, 3) := by decide +kernel
theorem dX9_init_148 : decode cX9_init 148 = .ok (.newarray .int, 2) := by decide +kernel
theorem dX9_init_150 : decode cX9_init 150 = .ok (.putfield 61, 3) := by decide +kernel
theorem dX9_init_153 : decode cX9_init 153 = .ok (.aload_n 0, 1) := by decide +kernel
theorem dX9_init_154 : decode cX9_init 154 = .ok (.sipush 200, 3) := by decide +kernel
theorem dX9_init_157 : decode cX9_init 157 = .ok (.newarray .boolean, 2) := by decide +kernel
theorem dX9_init_159 : decode cX9_init 159 = .ok (.putfield 64, 3) := by decide +kernel
theorem dX9_init_162 : decode cX9_init 162 = .ok (.aload_n 0, 1) := by decide +kernel
theorem dX9_init_163 : decode cX9_init 163 = .ok (.sipush 200, 3) := by decide +kernel
theorem dX9_init_166 : decode cX9_init 166 = .ok (.newarray .boolean, 2) := by decide +kernel
theorem dX9_init_168 : decode cX9_init 168 = .ok (.putfield 68, 3) := by decide +kernel
theorem dX9_init_171 : decode cX9_init 171 = .ok (.aload_n 0, 1) := by decide +kernel
theorem dX9_init_172 : decode cX9_init 172 = .ok (.sipush 200, 3) := by decide +kernel
theorem dX9_init_175 : decode cX9_init 175 = .ok (.newarray .boolean, 2) := by decide +kernel
theorem dX9_init_177 : decode cX9_init 177 = .ok (.putfield 71, 3) := by decide +kernel
theorem dX9_init_180 : decode cX9_init 180 = .ok (.aload_n 0, 1) := by decide +kernel
theorem dX9_init_181 : decode cX9_init 181 = .ok (.sipush 200, 3) := by decide +kernel
theorem dX9_init_184 : decode cX9_init 184 = .ok (.newarray .boolean, 2) := by decide +kernel
theorem dX9_init_186 : decode cX9_init 186 = .ok (.putfield 74, 3) := by decide +kernel
theorem dX9_init_189 : decode cX9_init 189 = .ok (.aload_n 0, 1) := by decide +kernel
theorem dX9_init_190 : decode cX9_init 190 = .ok (.sipush 200, 3) := by decide +kernel
theorem dX9_init_193 : decode cX9_init 193 = .ok (.newarray .boolean, 2) := by decide +kernel
theorem dX9_init_195 : decode cX9_init 195 = .ok (.putfield 77, 3) := by decide +kernel
theorem dX9_init_198 : decode cX9_init 198 = .ok (.aload_n 0, 1) := by decide +kernel
theorem dX9_init_199 : decode cX9_init 199 = .ok (.sipush 200, 3) := by decide +kernel
theorem dX9_init_202 : decode cX9_init 202 = .ok (.newarray .int, 2) := by decide +kernel
theorem dX9_init_204 : decode cX9_init 204 = .ok (.putfield 80, 3) := by decide +kernel
theorem dX9_init_207 : decode cX9_init 207 = .ok (.aload_n 0, 1) := by decide +kernel
theorem dX9_init_208 : decode cX9_init 208 = .ok (.sipush 200, 3) := by decide +kernel
theorem dX9_init_211 : decode cX9_init 211 = .ok (.newarray .int, 2) := by decide +kernel
theorem dX9_init_213 : decode cX9_init 213 = .ok (.putfield 83, 3) := by decide +kernel
theorem dX9_init_216 : decode cX9_init 216 = .ok (.aload_n 0, 1) := by decide +kernel
theorem dX9_init_217 : decode cX9_init 217 = .ok (.sipush 1000, 3) := by decide +kernel
theorem dX9_init_220 : decode cX9_init 220 = .ok (.newarray .int, 2) := by decide +kernel
theorem dX9_init_222 : decode cX9_init 222 = .ok (.putfield 86, 3) := by decide +kernel
theorem dX9_init_225 : decode cX9_init 225 = .ok (.aload_n 0, 1) := by decide +kernel
theorem dX9_init_226 : decode cX9_init 226 = .ok (.sipush 1000, 3) := by decide +kernel
theorem dX9_init_229 : decode cX9_init 229 = .ok (.newarray .int, 2) := by decide +kernel
theorem dX9_init_231 : decode cX9_init 231 = .ok (.putfield 89, 3) := by decide +kernel
theorem dX9_init_234 : decode cX9_init 234 = .ok (.aload_n 0, 1) := by decide +kernel
theorem dX9_init_235 : decode cX9_init 235 = .ok (.sipush 1000, 3) := by decide +kernel
theorem dX9_init_238 : decode cX9_init 238 = .ok (.newarray .int, 2) := by decide +kernel
theorem dX9_init_240 : decode cX9_init 240 = .ok (.putfield 92, 3) := by decide +kernel
theorem dX9_init_243 : decode cX9_init 243 = .ok (.aload_n 0, 1) := by decide +kernel
theorem dX9_init_244 : decode cX9_init 244 = .ok (.sipush 1000, 3) := by decide +kernel
theorem dX9_init_247 : decode cX9_init 247 = .ok (.newarray .int, 2) := by decide +kernel
theorem dX9_init_249 : decode cX9_init 249 = .ok (.putfield 95, 3) := by decide +kernel
theorem dX9_init_252 : decode cX9_init 252 = .ok (.aload_n 0, 1) := by decide +kernel
theorem dX9_init_253 : decode cX9_init 253 = .ok (.sipush 1000, 3) := by decide +kernel
theorem dX9_init_256 : decode cX9_init 256 = .ok (.newarray .int, 2) := by decide +kernel
theorem dX9_init_258 : decode cX9_init 258 = .ok (.putfield 98, 3) := by decide +kernel
theorem dX9_init_261 : decode cX9_init 261 = .ok (.aload_n 0, 1) := by decide +kernel
theorem dX9_init_262 : decode cX9_init 262 = .ok (.sipush 1000, 3) := by decide +kernel
theorem dX9_init_265 : decode cX9_init 265 = .ok (.newarray .int, 2) := by decide +kernel
theorem dX9_init_267 : decode cX9_init 267 = .ok (.putfield 101, 3) := by decide +kernel
theorem dX9_init_270 : decode cX9_init 270 = .ok (.aload_n 0, 1) := by decide +kernel
theorem dX9_init_271 : decode cX9_init 271 = .ok (.sipush 1000, 3) := by decide +kernel
theorem dX9_init_274 : decode cX9_init 274 = .ok (.newarray .int, 2) := by decide +kernel
theorem dX9_init_276 : decode cX9_init 276 = .ok (.putfield 104, 3) := by decide +kernel
theorem dX9_init_279 : decode cX9_init 279 = .ok (.aload_n 0, 1) := by decide +kernel
theorem dX9_init_280 : decode cX9_init 280 = .ok (.sipush 1000, 3) := by decide +kernel
theorem dX9_init_283 : decode cX9_init 283 = .ok (.newarray .int, 2) := by decide +kernel
theorem dX9_init_285 : decode cX9_init 285 = .ok (.putfield 107, 3) := by decide +kernel
theorem dX9_init_288 : decode cX9_init 288 = .ok (.aload_n 0, 1) := by decide +kernel
theorem dX9_init_289 : decode cX9_init 289 = .ok (.sipush 1000, 3) := by decide +kernel
theorem dX9_init_292 : decode cX9_init 292 = .ok (.newarray .int, 2) := by decide +kernel
theorem dX9_init_294 : decode cX9_init 294 = .ok (.putfield 110, 3) := by decide +kernel
theorem dX9_init_297 : decode cX9_init 297 = .ok (.aload_n 0, 1) := by decide +kernel
theorem dX9_init_298 : decode cX9_init 298 = .ok (.sipush 1000, 3) := by decide +kernel
theorem dX9_init_301 : decode cX9_init 301 = .ok (.newarray .int, 2) := by decide +kernel
theorem dX9_init_303 : decode cX9_init 303 = .ok (.putfield 113, 3) := by decide +kernel
theorem dX9_init_306 : decode cX9_init 306 = .ok (.aload_n 0, 1) := by decide +kernel
theorem dX9_init_307 : decode cX9_init 307 = .ok (.sipush 1000, 3) := by decide +kernel
theorem dX9_init_310 : decode cX9_init 310 = .ok (.newarray .boolean, 2) := by decide +kernel
theorem dX9_init_312 : decode cX9_init 312 = .ok (.putfield 116, 3) := by decide +kernel
theorem dX9_init_315 : decode cX9_init 315 = .ok (.aload_n 0, 1) := by decide +kernel
theorem dX9_init_316 : decode cX9_init 316 = .ok (.sipush 1000, 3) := by decide +kernel
theorem dX9_init_319 : decode cX9_init 319 = .ok (.newarray .boolean, 2) := by decide +kernel
theorem dX9_init_321 : decode cX9_init 321 = .ok (.putfield 119, 3) := by decide +kernel
theorem dX9_init_324 : decode cX9_init 324 = .ok (.aload_n 0, 1) := by decide +kernel
theorem dX9_init_325 : decode cX9_init 325 = .ok (.sipush 1000, 3) := by decide +kernel
theorem dX9_init_328 : decode cX9_init 328 = .ok (.newarray .int, 2) := by decide +kernel
theorem dX9_init_330 : decode cX9_init 330 = .ok (.putfield 122, 3) := by decide +kernel
theorem dX9_init_333 : decode cX9_init 333 = .ok (.aload_n 0, 1) := by decide +kernel
theorem dX9_init_334 : decode cX9_init 334 = .ok (.sipush 1000, 3) := by decide +kernel
theorem dX9_init_337 : decode cX9_init 337 = .ok (.newarray .int, 2) := by decide +kernel
theorem dX9_init_339 : decode cX9_init 339 = .ok (.putfield 125, 3) := by decide +kernel
theorem dX9_init_342 : decode cX9_init 342 = .ok (.aload_n 0, 1) := by decide +kernel
theorem dX9_init_343 : decode cX9_init 343 = .ok (.sipush 13000, 3) := by decide +kernel
theorem dX9_init_346 : decode cX9_init 346 = .ok (.newarray .int, 2) := by decide +kernel
theorem dX9_init_348 : decode cX9_init 348 = .ok (.putfield 128, 3) := by decide +kernel
theorem dX9_init_351 : decode cX9_init 351 = .ok (.aload_n 0, 1) := by decide +kernel
theorem dX9_init_352 : decode cX9_init 352 = .ok (.invokevirtual 131, 3) := by decide +kernel
theorem dX9_init_355 : decode cX9_init 355 = .ok (.return_, 1) := by decide +kernel
theorem mcX9_init : x_mc yX9_init cX9_init 1 none 0 := ⟨wd_599, wd_4, by decide +kernel⟩
set_option maxHeartbeats 4000000 in
set_option maxRecDepth 100000 in
theorem kX9_init (l : Launch) (base : Nat) (D : va_G) (dA : Nat → ClassId) (F : Nat) (r0 : Nat) : x_Met l base D dA yX9_init cX9_init 1 none 1 25 [va_rf (some r0)] (mX9_init F (some r0)) (fun _ => none) := by
  refine x_Met.of [(0, .inr (.inl (some r0)))] (by decide) (Nat.le_of_ble_eq_true rfl) rfl rfl ?_
  intro p e R s m args below meth c σ a τ ls hfr hlo E hr hk hn S hM hl
  have E : x_E p s m args c cX9_init 1 "WireMoneyModel" D dA := E
  unfold mX9_init at hM
  refine w_aload_n E hl 0 dX9_init_0 rfl ?_
  refine w_obj E hl ⟨wd_600, wd_18, wd_19⟩ (by rw [hfr, hlo]; decide) (Nat.le_of_ble_eq_true rfl) dX9_init_1 ?_
  refine w_aload_n E hl 0 dX9_init_4 rfl ?_
  refine lv_bipush (v := (10 : Int32)) E.1 E.2.1 dX9_init_5 (by decide) ?_
  refine w_newa (atype := .int) E S hM ⟨by decide, rfl, wd_55⟩ dX9_init_7 (fun v7 σ H S hM => ?_)
  refine w_wR E S hM lk_9_9 rfl (Or.inr ⟨hn, rfl, rfl⟩) dX9_init_9 (fun σ H locs S hM => ?_)
  refine w_aload_n E hl 0 dX9_init_12 rfl ?_
  refine lv_bipush (v := (10 : Int32)) E.1 E.2.1 dX9_init_13 (by decide) ?_
  refine w_newa (atype := .int) E S hM ⟨by decide, rfl, wd_55⟩ dX9_init_15 (fun v15 σ H S hM => ?_)
  refine w_wR E S hM lk_9_13 rfl (Or.inr ⟨hn, rfl, rfl⟩) dX9_init_17 (fun σ H locs S hM => ?_)
  refine w_aload_n E hl 0 dX9_init_20 rfl ?_
  refine lv_bipush (v := (10 : Int32)) E.1 E.2.1 dX9_init_21 (by decide) ?_
  refine w_newa (atype := .int) E S hM ⟨by decide, rfl, wd_55⟩ dX9_init_23 (fun v23 σ H S hM => ?_)
  refine w_wR E S hM lk_9_16 rfl (Or.inr ⟨hn, rfl, rfl⟩) dX9_init_25 (fun σ H locs S hM => ?_)
  refine w_aload_n E hl 0 dX9_init_28 rfl ?_
  refine lv_bipush (v := (10 : Int32)) E.1 E.2.1 dX9_init_29 (by decide) ?_
  refine w_newa (atype := .int) E S hM ⟨by decide, rfl, wd_55⟩ dX9_init_31 (fun v31 σ H S hM => ?_)
  refine w_wR E S hM lk_9_19 rfl (Or.inr ⟨hn, rfl, rfl⟩) dX9_init_33 (fun σ H locs S hM => ?_)
  refine w_aload_n E hl 0 dX9_init_36 rfl ?_
  refine lv_bipush (v := (10 : Int32)) E.1 E.2.1 dX9_init_37 (by decide) ?_
  refine w_newa (atype := .int) E S hM ⟨by decide, rfl, wd_55⟩ dX9_init_39 (fun v39 σ H S hM => ?_)
  refine w_wR E S hM lk_9_22 rfl (Or.inr ⟨hn, rfl, rfl⟩) dX9_init_41 (fun σ H locs S hM => ?_)
  refine w_aload_n E hl 0 dX9_init_44 rfl ?_
  refine lv_bipush (v := (15 : Int32)) E.1 E.2.1 dX9_init_45 (by decide) ?_
  refine w_newa (atype := .int) E S hM ⟨by decide, rfl, wd_55⟩ dX9_init_47 (fun v47 σ H S hM => ?_)
  refine w_wR E S hM lk_9_25 rfl (Or.inr ⟨hn, rfl, rfl⟩) dX9_init_49 (fun σ H locs S hM => ?_)
  refine w_aload_n E hl 0 dX9_init_52 rfl ?_
  refine lv_bipush (v := (15 : Int32)) E.1 E.2.1 dX9_init_53 (by decide) ?_
  refine w_newa (atype := .int) E S hM ⟨by decide, rfl, wd_55⟩ dX9_init_55 (fun v55 σ H S hM => ?_)
  refine w_wR E S hM lk_9_28 rfl (Or.inr ⟨hn, rfl, rfl⟩) dX9_init_57 (fun σ H locs S hM => ?_)
  refine w_aload_n E hl 0 dX9_init_60 rfl ?_
  refine lv_bipush (v := (15 : Int32)) E.1 E.2.1 dX9_init_61 (by decide) ?_
  refine w_newa (atype := .int) E S hM ⟨by decide, rfl, wd_55⟩ dX9_init_63 (fun v63 σ H S hM => ?_)
  refine w_wR E S hM lk_9_31 rfl (Or.inr ⟨hn, rfl, rfl⟩) dX9_init_65 (fun σ H locs S hM => ?_)
  refine w_aload_n E hl 0 dX9_init_68 rfl ?_
  refine lv_bipush (v := (15 : Int32)) E.1 E.2.1 dX9_init_69 (by decide) ?_
  refine w_newa (atype := .int) E S hM ⟨by decide, rfl, wd_55⟩ dX9_init_71 (fun v71 σ H S hM => ?_)
  refine w_wR E S hM lk_9_34 rfl (Or.inr ⟨hn, rfl, rfl⟩) dX9_init_73 (fun σ H locs S hM => ?_)
  refine w_aload_n E hl 0 dX9_init_76 rfl ?_
  refine lv_bipush (v := (15 : Int32)) E.1 E.2.1 dX9_init_77 (by decide) ?_
  refine w_newa (atype := .int) E S hM ⟨by decide, rfl, wd_55⟩ dX9_init_79 (fun v79 σ H S hM => ?_)
  refine w_wR E S hM lk_9_37 rfl (Or.inr ⟨hn, rfl, rfl⟩) dX9_init_81 (fun σ H locs S hM => ?_)
  refine w_aload_n E hl 0 dX9_init_84 rfl ?_
  refine lv_bipush (v := (100 : Int32)) E.1 E.2.1 dX9_init_85 (by decide) ?_
  refine w_newa (atype := .int) E S hM ⟨by decide, rfl, wd_55⟩ dX9_init_87 (fun v87 σ H S hM => ?_)
  refine w_wR E S hM lk_9_40 rfl (Or.inr ⟨hn, rfl, rfl⟩) dX9_init_89 (fun σ H locs S hM => ?_)
  refine w_aload_n E hl 0 dX9_init_92 rfl ?_
  refine lv_bipush (v := (8 : Int32)) E.1 E.2.1 dX9_init_93 (by decide) ?_
  refine w_newa (atype := .int) E S hM ⟨by decide, rfl, wd_55⟩ dX9_init_95 (fun v95 σ H S hM => ?_)
  refine w_wR E S hM lk_9_43 rfl (Or.inr ⟨hn, rfl, rfl⟩) dX9_init_97 (fun σ H locs S hM => ?_)
  refine w_aload_n E hl 0 dX9_init_100 rfl ?_
  refine lv_bipush (v := (8 : Int32)) E.1 E.2.1 dX9_init_101 (by decide) ?_
  refine w_newa (atype := .int) E S hM ⟨by decide, rfl, wd_55⟩ dX9_init_103 (fun v103 σ H S hM => ?_)
  refine w_wR E S hM lk_9_46 rfl (Or.inr ⟨hn, rfl, rfl⟩) dX9_init_105 (fun σ H locs S hM => ?_)
  refine w_aload_n E hl 0 dX9_init_108 rfl ?_
  refine lv_sipush (v := (200 : Int32)) E.1 E.2.1 dX9_init_109 (by decide) ?_
  refine w_newa (atype := .int) E S hM ⟨by decide, rfl, wd_55⟩ dX9_init_112 (fun v112 σ H S hM => ?_)
  refine w_wR E S hM lk_9_49 rfl (Or.inr ⟨hn, rfl, rfl⟩) dX9_init_114 (fun σ H locs S hM => ?_)
  refine w_aload_n E hl 0 dX9_init_117 rfl ?_
  refine lv_sipush (v := (200 : Int32)) E.1 E.2.1 dX9_init_118 (by decide) ?_
  refine w_newa (atype := .int) E S hM ⟨by decide, rfl, wd_55⟩ dX9_init_121 (fun v121 σ H S hM => ?_)
  refine w_wR E S hM lk_9_52 rfl (Or.inr ⟨hn, rfl, rfl⟩) dX9_init_123 (fun σ H locs S hM => ?_)
  refine w_aload_n E hl 0 dX9_init_126 rfl ?_
  refine lv_sipush (v := (200 : Int32)) E.1 E.2.1 dX9_init_127 (by decide) ?_
  refine w_newa (atype := .int) E S hM ⟨by decide, rfl, wd_55⟩ dX9_init_130 (fun v130 σ H S hM => ?_)
  refine w_wR E S hM lk_9_55 rfl (Or.inr ⟨hn, rfl, rfl⟩) dX9_init_132 (fun σ H locs S hM => ?_)
  refine w_aload_n E hl 0 dX9_init_135 rfl ?_
  refine lv_sipush (v := (200 : Int32)) E.1 E.2.1 dX9_init_136 (by decide) ?_
  refine w_newa (atype := .int) E S hM ⟨by decide, rfl, wd_55⟩ dX9_init_139 (fun v139 σ H S hM => ?_)
  refine w_wR E S hM lk_9_58 rfl (Or.inr ⟨hn, rfl, rfl⟩) dX9_init_141 (fun σ H locs S hM => ?_)
  refine w_aload_n E hl 0 dX9_init_144 rfl ?_
  refine lv_sipush (v := (200 : Int32)) E.1 E.2.1 dX9_init_145 (by decide) ?_
  refine w_newa (atype := .int) E S hM ⟨by decide, rfl, wd_55⟩ dX9_init_148 (fun v148 σ H S hM => ?_)
  refine w_wR E S hM lk_9_61 rfl (Or.inr ⟨hn, rfl, rfl⟩) dX9_init_150 (fun σ H locs S hM => ?_)
  refine w_aload_n E hl 0 dX9_init_153 rfl ?_
  refine lv_sipush (v := (200 : Int32)) E.1 E.2.1 dX9_init_154 (by decide) ?_
  refine w_newa (atype := .boolean) E S hM ⟨by decide, rfl, wd_757⟩ dX9_init_157 (fun v157 σ H S hM => ?_)
  refine w_wR E S hM lk_9_64 rfl (Or.inr ⟨hn, rfl, rfl⟩) dX9_init_159 (fun σ H locs S hM => ?_)
  refine w_aload_n E hl 0 dX9_init_162 rfl ?_
  refine lv_sipush (v := (200 : Int32)) E.1 E.2.1 dX9_init_163 (by decide) ?_
  refine w_newa (atype := .boolean) E S hM ⟨by decide, rfl, wd_757⟩ dX9_init_166 (fun v166 σ H S hM => ?_)
  refine w_wR E S hM lk_9_68 rfl (Or.inr ⟨hn, rfl, rfl⟩) dX9_init_168 (fun σ H locs S hM => ?_)
  refine w_aload_n E hl 0 dX9_init_171 rfl ?_
  refine lv_sipush (v := (200 : Int32)) E.1 E.2.1 dX9_init_172 (by decide) ?_
  refine w_newa (atype := .boolean) E S hM ⟨by decide, rfl, wd_757⟩ dX9_init_175 (fun v175 σ H S hM => ?_)
  refine w_wR E S hM lk_9_71 rfl (Or.inr ⟨hn, rfl, rfl⟩) dX9_init_177 (fun σ H locs S hM => ?_)
  refine w_aload_n E hl 0 dX9_init_180 rfl ?_
  refine lv_sipush (v := (200 : Int32)) E.1 E.2.1 dX9_init_181 (by decide) ?_
  refine w_newa (atype := .boolean) E S hM ⟨by decide, rfl, wd_757⟩ dX9_init_184 (fun v184 σ H S hM => ?_)
  refine w_wR E S hM lk_9_74 rfl (Or.inr ⟨hn, rfl, rfl⟩) dX9_init_186 (fun σ H locs S hM => ?_)
  refine w_aload_n E hl 0 dX9_init_189 rfl ?_
  refine lv_sipush (v := (200 : Int32)) E.1 E.2.1 dX9_init_190 (by decide) ?_
  refine w_newa (atype := .boolean) E S hM ⟨by decide, rfl, wd_757⟩ dX9_init_193 (fun v193 σ H S hM => ?_)
  refine w_wR E S hM lk_9_77 rfl (Or.inr ⟨hn, rfl, rfl⟩) dX9_init_195 (fun σ H locs S hM => ?_)
  refine w_aload_n E hl 0 dX9_init_198 rfl ?_
  refine lv_sipush (v := (200 : Int32)) E.1 E.2.1 dX9_init_199 (by decide) ?_
  refine w_newa (atype := .int) E S hM ⟨by decide, rfl, wd_55⟩ dX9_init_202 (fun v202 σ H S hM => ?_)
  refine w_wR E S hM lk_9_80 rfl (Or.inr ⟨hn, rfl, rfl⟩) dX9_init_204 (fun σ H locs S hM => ?_)
  refine w_aload_n E hl 0 dX9_init_207 rfl ?_
  refine lv_sipush (v := (200 : Int32)) E.1 E.2.1 dX9_init_208 (by decide) ?_
  refine w_newa (atype := .int) E S hM ⟨by decide, rfl, wd_55⟩ dX9_init_211 (fun v211 σ H S hM => ?_)
  refine w_wR E S hM lk_9_83 rfl (Or.inr ⟨hn, rfl, rfl⟩) dX9_init_213 (fun σ H locs S hM => ?_)
  refine w_aload_n E hl 0 dX9_init_216 rfl ?_
  refine lv_sipush (v := (1000 : Int32)) E.1 E.2.1 dX9_init_217 (by decide) ?_
  refine w_newa (atype := .int) E S hM ⟨by decide, rfl, wd_55⟩ dX9_init_220 (fun v220 σ H S hM => ?_)
  refine w_wR E S hM lk_9_86 rfl (Or.inr ⟨hn, rfl, rfl⟩) dX9_init_222 (fun σ H locs S hM => ?_)
  refine w_aload_n E hl 0 dX9_init_225 rfl ?_
  refine lv_sipush (v := (1000 : Int32)) E.1 E.2.1 dX9_init_226 (by decide) ?_
  refine w_newa (atype := .int) E S hM ⟨by decide, rfl, wd_55⟩ dX9_init_229 (fun v229 σ H S hM => ?_)
  refine w_wR E S hM lk_9_89 rfl (Or.inr ⟨hn, rfl, rfl⟩) dX9_init_231 (fun σ H locs S hM => ?_)
  refine w_aload_n E hl 0 dX9_init_234 rfl ?_
  refine lv_sipush (v := (1000 : Int32)) E.1 E.2.1 dX9_init_235 (by decide) ?_
  refine w_newa (atype := .int) E S hM ⟨by decide, rfl, wd_55⟩ dX9_init_238 (fun v238 σ H S hM => ?_)
  refine w_wR E S hM lk_9_92 rfl (Or.inr ⟨hn, rfl, rfl⟩) dX9_init_240 (fun σ H locs S hM => ?_)
  refine w_aload_n E hl 0 dX9_init_243 rfl ?_
  refine lv_sipush (v := (1000 : Int32)) E.1 E.2.1 dX9_init_244 (by decide) ?_
  refine w_newa (atype := .int) E S hM ⟨by decide, rfl, wd_55⟩ dX9_init_247 (fun v247 σ H S hM => ?_)
  refine w_wR E S hM lk_9_95 rfl (Or.inr ⟨hn, rfl, rfl⟩) dX9_init_249 (fun σ H locs S hM => ?_)
  refine w_aload_n E hl 0 dX9_init_252 rfl ?_
  refine lv_sipush (v := (1000 : Int32)) E.1 E.2.1 dX9_init_253 (by decide) ?_
  refine w_newa (atype := .int) E S hM ⟨by decide, rfl, wd_55⟩ dX9_init_256 (fun v256 σ H S hM => ?_)
  refine w_wR E S hM lk_9_98 rfl (Or.inr ⟨hn, rfl, rfl⟩) dX9_init_258 (fun σ H locs S hM => ?_)
  refine w_aload_n E hl 0 dX9_init_261 rfl ?_
  refine lv_sipush (v := (1000 : Int32)) E.1 E.2.1 dX9_init_262 (by decide) ?_
  refine w_newa (atype := .int) E S hM ⟨by decide, rfl, wd_55⟩ dX9_init_265 (fun v265 σ H S hM => ?_)
  refine w_wR E S hM lk_9_101 rfl (Or.inr ⟨hn, rfl, rfl⟩) dX9_init_267 (fun σ H locs S hM => ?_)
  refine w_aload_n E hl 0 dX9_init_270 rfl ?_
  refine lv_sipush (v := (1000 : Int32)) E.1 E.2.1 dX9_init_271 (by decide) ?_
  refine w_newa (atype := .int) E S hM ⟨by decide, rfl, wd_55⟩ dX9_init_274 (fun v274 σ H S hM => ?_)
  refine w_wR E S hM lk_9_104 rfl (Or.inr ⟨hn, rfl, rfl⟩) dX9_init_276 (fun σ H locs S hM => ?_)
  refine w_aload_n E hl 0 dX9_init_279 rfl ?_
  refine lv_sipush (v := (1000 : Int32)) E.1 E.2.1 dX9_init_280 (by decide) ?_
  refine w_newa (atype := .int) E S hM ⟨by decide, rfl, wd_55⟩ dX9_init_283 (fun v283 σ H S hM => ?_)
  refine w_wR E S hM lk_9_107 rfl (Or.inr ⟨hn, rfl, rfl⟩) dX9_init_285 (fun σ H locs S hM => ?_)
  refine w_aload_n E hl 0 dX9_init_288 rfl ?_
  refine lv_sipush (v := (1000 : Int32)) E.1 E.2.1 dX9_init_289 (by decide) ?_
  refine w_newa (atype := .int) E S hM ⟨by decide, rfl, wd_55⟩ dX9_init_292 (fun v292 σ H S hM => ?_)
  refine w_wR E S hM lk_9_110 rfl (Or.inr ⟨hn, rfl, rfl⟩) dX9_init_294 (fun σ H locs S hM => ?_)
  refine w_aload_n E hl 0 dX9_init_297 rfl ?_
  refine lv_sipush (v := (1000 : Int32)) E.1 E.2.1 dX9_init_298 (by decide) ?_
  refine w_newa (atype := .int) E S hM ⟨by decide, rfl, wd_55⟩ dX9_init_301 (fun v301 σ H S hM => ?_)
  refine w_wR E S hM lk_9_113 rfl (Or.inr ⟨hn, rfl, rfl⟩) dX9_init_303 (fun σ H locs S hM => ?_)
  refine w_aload_n E hl 0 dX9_init_306 rfl ?_
  refine lv_sipush (v := (1000 : Int32)) E.1 E.2.1 dX9_init_307 (by decide) ?_
  refine w_newa (atype := .boolean) E S hM ⟨by decide, rfl, wd_757⟩ dX9_init_310 (fun v310 σ H S hM => ?_)
  refine w_wR E S hM lk_9_116 rfl (Or.inr ⟨hn, rfl, rfl⟩) dX9_init_312 (fun σ H locs S hM => ?_)
  refine w_aload_n E hl 0 dX9_init_315 rfl ?_
  refine lv_sipush (v := (1000 : Int32)) E.1 E.2.1 dX9_init_316 (by decide) ?_
  refine w_newa (atype := .boolean) E S hM ⟨by decide, rfl, wd_757⟩ dX9_init_319 (fun v319 σ H S hM => ?_)
  refine w_wR E S hM lk_9_119 rfl (Or.inr ⟨hn, rfl, rfl⟩) dX9_init_321 (fun σ H locs S hM => ?_)
  refine w_aload_n E hl 0 dX9_init_324 rfl ?_
  refine lv_sipush (v := (1000 : Int32)) E.1 E.2.1 dX9_init_325 (by decide) ?_
  refine w_newa (atype := .int) E S hM ⟨by decide, rfl, wd_55⟩ dX9_init_328 (fun v328 σ H S hM => ?_)
  refine w_wR E S hM lk_9_122 rfl (Or.inr ⟨hn, rfl, rfl⟩) dX9_init_330 (fun σ H locs S hM => ?_)
  refine w_aload_n E hl 0 dX9_init_333 rfl ?_
  refine lv_sipush (v := (1000 : Int32)) E.1 E.2.1 dX9_init_334 (by decide) ?_
  refine w_newa (atype := .int) E S hM ⟨by decide, rfl, wd_55⟩ dX9_init_337 (fun v337 σ H S hM => ?_)
  refine w_wR E S hM lk_9_125 rfl (Or.inr ⟨hn, rfl, rfl⟩) dX9_init_339 (fun σ H locs S hM => ?_)
  refine w_aload_n E hl 0 dX9_init_342 rfl ?_
  refine lv_sipush (v := (13000 : Int32)) E.1 E.2.1 dX9_init_343 (by decide) ?_
  refine w_newa (atype := .int) E S hM ⟨by decide, rfl, wd_55⟩ dX9_init_346 (fun v346 σ H S hM => ?_)
  refine w_wR E S hM lk_9_128 rfl (Or.inr ⟨hn, rfl, rfl⟩) dX9_init_348 (fun σ H locs S hM => ?_)
  refine w_aload_n E hl 0 dX9_init_351 rfl ?_
  refine w_cVv (rest := []) E S hl hM (kX9_reckons l base D dA F (some r0)) mcX9_reckons ⟨by decide, rfl, wd_601, wd_603, wp_21⟩ hfr hlo (by decide) rfl (Nat.le_of_ble_eq_true rfl) dX9_init_352 rfl (fun σ H locs S hM => ?_)
  exact w_vret E S hM hr hk dX9_init_355
theorem dX9_in_0 : decode cX9_in 0 = .ok (.iload_n 0, 1) := by decide +kernel
theorem dX9_in_1 : decode cX9_in 1 = .ok (.iload_n 1, 1) := by decide +kernel
theorem dX9_in_2 : decode cX9_in 2 = .ok (.if_icmp .lt 12, 3) := by decide +kernel
theorem dX9_in_5 : decode cX9_in 5 = .ok (.iload_n 0, 1) := by decide +kernel
theorem dX9_in_6 : decode cX9_in 6 = .ok (.iload_n 2, 1) := by decide +kernel
theorem dX9_in_7 : decode cX9_in 7 = .ok (.if_icmp .gt 7, 3) := by decide +kernel
theorem dX9_in_10 : decode cX9_in 10 = .ok (.iconst 1, 1) := by decide +kernel
theorem dX9_in_11 : decode cX9_in 11 = .ok (.goto 4, 3) := by decide +kernel
theorem dX9_in_14 : decode cX9_in 14 = .ok (.iconst 0, 1) := by decide +kernel
theorem dX9_in_15 : decode cX9_in 15 = .ok (.ireturn, 1) := by decide +kernel
theorem mcX9_in : x_mc yX9_in cX9_in 3 (some .boolean) 3 := ⟨wd_764, wd_4, by decide +kernel⟩
set_option maxHeartbeats 4000000 in
set_option maxRecDepth 100000 in
theorem kX9_in (l : Launch) (base : Nat) (D : va_G) (dA : Nat → ClassId) (F : Nat) (x0 : Int32) (x1 : Int32) (x2 : Int32) : x_Met l base D dA yX9_in cX9_in 3 (some .boolean) 0 0 [.int x0, .int x1, .int x2] (mX9_in F x0 x1 x2) (fun x => some (.int x)) := by
  refine x_Met.of [(0, .inl x0), (1, .inl x1), (2, .inl x2)] (by decide) (Nat.le_of_ble_eq_true rfl) rfl rfl ?_
  intro p e R s m args below meth c σ a τ ls hfr hlo E hr hk hn S hM hl
  have E : x_E p s m args c cX9_in 3 "WireMoneyModel" D dA := E
  unfold mX9_in at hM
  refine w_iload_n E hl 0 dX9_in_0 rfl ?_
  refine w_iload_n E hl 1 dX9_in_1 rfl ?_
  refine lv_icmp_lt (tgt := 14) E.1 E.2.1 dX9_in_2 (by decide) (fun c2 => ?_) (fun c2 => ?_)
  · replace hM := x_okT hM c2
    refine lv_iconst (v := (0 : Int32)) E.1 E.2.1 dX9_in_14 (by decide) ?_
    exact w_zretc E S hM (by decide) hr hk dX9_in_15
  · replace hM := x_okF hM c2
    refine w_iload_n E hl 0 dX9_in_5 rfl ?_
    refine w_iload_n E hl 2 dX9_in_6 rfl ?_
    refine lv_icmp_gt (tgt := 14) E.1 E.2.1 dX9_in_7 (by decide) (fun c7 => ?_) (fun c7 => ?_)
    · replace hM := x_okT hM c7
      refine lv_iconst (v := (0 : Int32)) E.1 E.2.1 dX9_in_14 (by decide) ?_
      exact w_zretc E S hM (by decide) hr hk dX9_in_15
    · replace hM := x_okF hM c7
      refine lv_iconst (v := (1 : Int32)) E.1 E.2.1 dX9_in_10 (by decide) ?_
      refine lv_goto (tgt := 15) E.1 E.2.1 dX9_in_11 (by decide) ?_
      exact w_zretc E S hM (by decide) hr hk dX9_in_15
theorem dX9_isCounter_0 : decode cX9_isCounter 0 = .ok (.iload_n 1, 1) := by decide +kernel
theorem dX9_isCounter_1 : decode cX9_isCounter 1 = .ok (.iconst 0, 1) := by decide +kernel
theorem dX9_isCounter_2 : decode cX9_isCounter 2 = .ok (.aload_n 0, 1) := by decide +kernel
theorem dX9_isCounter_3 : decode cX9_isCounter 3 = .ok (.getfield 134, 3) := by decide +kernel
theorem dX9_isCounter_6 : decode cX9_isCounter 6 = .ok (.iconst 1, 1) := by decide +kernel
theorem dX9_isCounter_7 : decode cX9_isCounter 7 = .ok (.isub, 1) := by decide +kernel
theorem dX9_isCounter_8 : decode cX9_isCounter 8 = .ok (.invokestatic 138, 3) := by decide +kernel
theorem dX9_isCounter_11 : decode cX9_isCounter 11 = .ok (.ireturn, 1) := by decide +kernel
theorem mcX9_isCounter : x_mc yX9_isCounter cX9_isCounter 2 (some .boolean) 1 := ⟨wd_772, wd_4, by decide +kernel⟩
set_option maxHeartbeats 4000000 in
set_option maxRecDepth 100000 in
theorem kX9_isCounter (l : Launch) (base : Nat) (D : va_G) (dA : Nat → ClassId) (F : Nat) (r0 : Option Nat) (x1 : Int32) : x_Met l base D dA yX9_isCounter cX9_isCounter 2 (some .boolean) 1 22 [va_rf r0, .int x1] (mX9_isCounter F r0 x1) (fun x => some (.int x)) := by
  refine x_Met.of [(0, .inr (.inl r0)), (1, .inl x1)] (by decide) (Nat.le_of_ble_eq_true rfl) rfl rfl ?_
  intro p e R s m args below meth c σ a τ ls hfr hlo E hr hk hn S hM hl
  have E : x_E p s m args c cX9_isCounter 2 "WireMoneyModel" D dA := E
  unfold mX9_isCounter at hM
  refine w_iload_n E hl 1 dX9_isCounter_0 rfl ?_
  refine lv_iconst (v := (0 : Int32)) E.1 E.2.1 dX9_isCounter_1 (by decide) ?_
  refine w_aload_n E hl 0 dX9_isCounter_2 rfl ?_
  refine w_rI E S hM lk_9_134 rfl dX9_isCounter_3 (fun v3 hM => ?_)
  refine lv_iconst (v := (1 : Int32)) E.1 E.2.1 dX9_isCounter_6 (by decide) ?_
  refine lv_isub E.1 E.2.1 dX9_isCounter_7 ?_
  refine w_cSi (rest := []) E S hl hM (kX9_in l base D dA F x1 (0 : Int32) (v3 - (1 : Int32))) mcX9_in ⟨wd_762, wd_763⟩ hfr hlo (by decide) rfl (Nat.le_of_ble_eq_true rfl) dX9_isCounter_8 rfl (fun v8 σ H locs S hM => ?_)
  exact w_zret E S hM hr hk dX9_isCounter_11
theorem dX9_isOrder_0 : decode cX9_isOrder 0 = .ok (.iload_n 1, 1) := by decide +kernel
theorem dX9_isOrder_1 : decode cX9_isOrder 1 = .ok (.iconst 0, 1) := by decide +kernel
theorem dX9_isOrder_2 : decode cX9_isOrder 2 = .ok (.aload_n 0, 1) := by decide +kernel
theorem dX9_isOrder_3 : decode cX9_isOrder 3 = .ok (.getfield 142, 3) := by decide +kernel
theorem dX9_isOrder_6 : decode cX9_isOrder 6 = .ok (.iconst 1, 1) := by decide +kernel
theorem dX9_isOrder_7 : decode cX9_isOrder 7 = .ok (.isub, 1) := by decide +kernel
theorem dX9_isOrder_8 : decode cX9_isOrder 8 = .ok (.invokestatic 138, 3) := by decide +kernel
theorem dX9_isOrder_11 : decode cX9_isOrder 11 = .ok (.ireturn, 1) := by decide +kernel
theorem mcX9_isOrder : x_mc yX9_isOrder cX9_isOrder 2 (some .boolean) 1 := ⟨wd_833, wd_4, by decide +kernel⟩
set_option maxHeartbeats 4000000 in
set_option maxRecDepth 100000 in
theorem kX9_isOrder (l : Launch) (base : Nat) (D : va_G) (dA : Nat → ClassId) (F : Nat) (r0 : Option Nat) (x1 : Int32) : x_Met l base D dA yX9_isOrder cX9_isOrder 2 (some .boolean) 1 22 [va_rf r0, .int x1] (mX9_isOrder F r0 x1) (fun x => some (.int x)) := by
  refine x_Met.of [(0, .inr (.inl r0)), (1, .inl x1)] (by decide) (Nat.le_of_ble_eq_true rfl) rfl rfl ?_
  intro p e R s m args below meth c σ a τ ls hfr hlo E hr hk hn S hM hl
  have E : x_E p s m args c cX9_isOrder 2 "WireMoneyModel" D dA := E
  unfold mX9_isOrder at hM
  refine w_iload_n E hl 1 dX9_isOrder_0 rfl ?_
  refine lv_iconst (v := (0 : Int32)) E.1 E.2.1 dX9_isOrder_1 (by decide) ?_
  refine w_aload_n E hl 0 dX9_isOrder_2 rfl ?_
  refine w_rI E S hM lk_9_142 rfl dX9_isOrder_3 (fun v3 hM => ?_)
  refine lv_iconst (v := (1 : Int32)) E.1 E.2.1 dX9_isOrder_6 (by decide) ?_
  refine lv_isub E.1 E.2.1 dX9_isOrder_7 ?_
  refine w_cSi (rest := []) E S hl hM (kX9_in l base D dA F x1 (0 : Int32) (v3 - (1 : Int32))) mcX9_in ⟨wd_762, wd_763⟩ hfr hlo (by decide) rfl (Nat.le_of_ble_eq_true rfl) dX9_isOrder_8 rfl (fun v8 σ H locs S hM => ?_)
  exact w_zret E S hM hr hk dX9_isOrder_11
theorem dX9_counter_0 : decode cX9_counter 0 = .ok (.iload_n 1, 1) := by decide +kernel
theorem dX9_counter_1 : decode cX9_counter 1 = .ok (.iconst 0, 1) := by decide +kernel
theorem dX9_counter_2 : decode cX9_counter 2 = .ok (.ldc 145, 2) := by decide +kernel
theorem dX9_counter_4 : decode cX9_counter 4 = .ok (.invokestatic 138, 3) := by decide +kernel
theorem dX9_counter_7 : decode cX9_counter 7 = .ok (.ifCond .eq 36, 3) := by decide +kernel
theorem dX9_counter_10 : decode cX9_counter 10 = .ok (.iload_n 2, 1) := by decide +kernel
theorem dX9_counter_11 : decode cX9_counter 11 = .ok (.iconst 0, 1) := by decide +kernel
theorem dX9_counter_12 : decode cX9_counter 12 = .ok (.sipush 1440, 3) := by decide +kernel
theorem dX9_counter_15 : decode cX9_counter 15 = .ok (.invokestatic 138, 3) := by decide +kernel
theorem dX9_counter_18 : decode cX9_counter 18 = .ok (.ifCond .eq 25, 3) := by decide +kernel
theorem dX9_counter_21 : decode cX9_counter 21 = .ok (.iload_n 3, 1) := by decide +kernel
theorem dX9_counter_22 : decode cX9_counter 22 = .ok (.iload_n 2, 1) := by decide +kernel
theorem dX9_counter_23 : decode cX9_counter 23 = .ok (.iconst 1, 1) := by decide +kernel
theorem dX9_counter_24 : decode cX9_counter 24 = .ok (.iadd, 1) := by decide +kernel
theorem dX9_counter_25 : decode cX9_counter 25 = .ok (.sipush 1440, 3) := by decide +kernel
theorem dX9_counter_28 : decode cX9_counter 28 = .ok (.invokestatic 138, 3) := by decide +kernel
theorem dX9_counter_31 : decode cX9_counter 31 = .ok (.ifCond .eq 12, 3) := by decide +kernel
theorem dX9_counter_34 : decode cX9_counter 34 = .ok (.aload_n 0, 1) := by decide +kernel
theorem dX9_counter_35 : decode cX9_counter 35 = .ok (.getfield 134, 3) := by decide +kernel
theorem dX9_counter_38 : decode cX9_counter 38 = .ok (.bipush 10, 2) := by decide +kernel
theorem dX9_counter_40 : decode cX9_counter 40 = .ok (.if_icmp .ne 5, 3) := by decide +kernel
theorem dX9_counter_43 : decode cX9_counter 43 = .ok (.iconst (-1), 1) := by decide +kernel
theorem dX9_counter_44 : decode cX9_counter 44 = .ok (.ireturn, 1) := by decide +kernel
theorem dX9_counter_45 : decode cX9_counter 45 = .ok (.aload_n 0, 1) := by decide +kernel
theorem dX9_counter_46 : decode cX9_counter 46 = .ok (.getfield 9, 3) := by decide +kernel
theorem dX9_counter_49 : decode cX9_counter 49 = .ok (.aload_n 0, 1) := by decide +kernel
theorem dX9_counter_50 : decode cX9_counter 50 = .ok (.getfield 134, 3) := by decide +kernel
theorem dX9_counter_53 : decode cX9_counter 53 = .ok (.iload_n 1, 1) := by decide +kernel
theorem dX9_counter_54 : decode cX9_counter 54 = .ok (.iastore, 1) := by decide +kernel
theorem dX9_counter_55 : decode cX9_counter 55 = .ok (.aload_n 0, 1) := by decide +kernel
theorem dX9_counter_56 : decode cX9_counter 56 = .ok (.getfield 13, 3) := by decide +kernel
theorem dX9_counter_59 : decode cX9_counter 59 = .ok (.aload_n 0, 1) := by decide +kernel
theorem dX9_counter_60 : decode cX9_counter 60 = .ok (.getfield 134, 3) := by decide +kernel
theorem dX9_counter_63 : decode cX9_counter 63 = .ok (.iload_n 2, 1) := by decide +kernel
theorem dX9_counter_64 : decode cX9_counter 64 = .ok (.iastore, 1) := by decide +kernel
theorem dX9_counter_65 : decode cX9_counter 65 = .ok (.aload_n 0, 1) := by decide +kernel
theorem dX9_counter_66 : decode cX9_counter 66 = .ok (.getfield 16, 3) := by decide +kernel
theorem dX9_counter_69 : decode cX9_counter 69 = .ok (.aload_n 0, 1) := by decide +kernel
theorem dX9_counter_70 : decode cX9_counter 70 = .ok (.getfield 134, 3) := by decide +kernel
theorem dX9_counter_73 : decode cX9_counter 73 = .ok (.iload_n 3, 1) := by decide +kernel
theorem dX9_counter_74 : decode cX9_counter 74 = .ok (.iastore, 1) := by decide +kernel
theorem dX9_counter_75 : decode cX9_counter 75 = .ok (.aload_n 0, 1) := by decide +kernel
theorem dX9_counter_76 : decode cX9_counter 76 = .ok (.dup, 1) := by decide +kernel
theorem dX9_counter_77 : decode cX9_counter 77 = .ok (.getfield 134, 3) := by decide +kernel
theorem dX9_counter_80 : decode cX9_counter 80 = .ok (.iconst 1, 1) := by decide +kernel
theorem dX9_counter_81 : decode cX9_counter 81 = .ok (.iadd, 1) := by decide +kernel
theorem dX9_counter_82 : decode cX9_counter 82 = .ok (.putfield 134, 3) := by decide +kernel
theorem dX9_counter_85 : decode cX9_counter 85 = .ok (.aload_n 0, 1) := by decide +kernel
theorem dX9_counter_86 : decode cX9_counter 86 = .ok (.getfield 134, 3) := by decide +kernel
theorem dX9_counter_89 : decode cX9_counter 89 = .ok (.iconst 1, 1) := by decide +kernel
theorem dX9_counter_90 : decode cX9_counter 90 = .ok (.isub, 1) := by decide +kernel
theorem dX9_counter_91 : decode cX9_counter 91 = .ok (.ireturn, 1) := by decide +kernel
theorem mcX9_counter : x_mc yX9_counter cX9_counter 4 (some .int) 3 := ⟨wd_761, wd_4, by decide +kernel⟩
set_option maxHeartbeats 4000000 in
set_option maxRecDepth 100000 in
theorem kX9_counter (l : Launch) (base : Nat) (D : va_G) (dA : Nat → ClassId) (F : Nat) (r0 : Option Nat) (x1 : Int32) (x2 : Int32) (x3 : Int32) : x_Met l base D dA yX9_counter cX9_counter 4 (some .int) 1 22 [va_rf r0, .int x1, .int x2, .int x3] (mX9_counter F r0 x1 x2 x3) (fun x => some (.int x)) := by
  refine x_Met.of [(0, .inr (.inl r0)), (1, .inl x1), (2, .inl x2), (3, .inl x3)] (by decide) (Nat.le_of_ble_eq_true rfl) rfl rfl ?_
  intro p e R s m args below meth c σ a τ ls hfr hlo E hr hk hn S hM hl
  have E : x_E p s m args c cX9_counter 4 "WireMoneyModel" D dA := E
  unfold mX9_counter at hM
  refine w_iload_n E hl 1 dX9_counter_0 rfl ?_
  refine lv_iconst (v := (0 : Int32)) E.1 E.2.1 dX9_counter_1 (by decide) ?_
  refine w_ldc (v := (1000000 : Int32)) E wd_605 dX9_counter_2 ?_
  refine w_cSi (rest := []) E S hl hM (kX9_in l base D dA F x1 (0 : Int32) (1000000 : Int32)) mcX9_in ⟨wd_762, wd_763⟩ hfr hlo (by decide) rfl (Nat.le_of_ble_eq_true rfl) dX9_counter_4 rfl (fun v4 σ H locs S hM => ?_)
  refine lv_if_eq (tgt := 43) E.1 E.2.1 dX9_counter_7 (by decide) (fun c7 => ?_) (fun c7 => ?_)
  · replace hM := x_okT hM c7
    refine lv_iconst (v := (-1 : Int32)) E.1 E.2.1 dX9_counter_43 (by decide) ?_
    exact w_iret E S hM hr hk dX9_counter_44
  · replace hM := x_okF hM c7
    refine w_iload_n E hl 2 dX9_counter_10 rfl ?_
    refine lv_iconst (v := (0 : Int32)) E.1 E.2.1 dX9_counter_11 (by decide) ?_
    refine lv_sipush (v := (1440 : Int32)) E.1 E.2.1 dX9_counter_12 (by decide) ?_
    refine w_cSi (rest := []) E S hl hM (kX9_in l base D dA F x2 (0 : Int32) (1440 : Int32)) mcX9_in ⟨wd_762, wd_763⟩ hfr hlo (by decide) rfl (Nat.le_of_ble_eq_true rfl) dX9_counter_15 rfl (fun v15 σ H locs S hM => ?_)
    refine lv_if_eq (tgt := 43) E.1 E.2.1 dX9_counter_18 (by decide) (fun c18 => ?_) (fun c18 => ?_)
    · replace hM := x_okT hM c18
      refine lv_iconst (v := (-1 : Int32)) E.1 E.2.1 dX9_counter_43 (by decide) ?_
      exact w_iret E S hM hr hk dX9_counter_44
    · replace hM := x_okF hM c18
      refine w_iload_n E hl 3 dX9_counter_21 rfl ?_
      refine w_iload_n E hl 2 dX9_counter_22 rfl ?_
      refine lv_iconst (v := (1 : Int32)) E.1 E.2.1 dX9_counter_23 (by decide) ?_
      refine lv_iadd E.1 E.2.1 dX9_counter_24 ?_
      refine lv_sipush (v := (1440 : Int32)) E.1 E.2.1 dX9_counter_25 (by decide) ?_
      refine w_cSi (rest := []) E S hl hM (kX9_in l base D dA F x3 (x2 + (1 : Int32)) (1440 : Int32)) mcX9_in ⟨wd_762, wd_763⟩ hfr hlo (by decide) rfl (Nat.le_of_ble_eq_true rfl) dX9_counter_28 rfl (fun v28 σ H locs S hM => ?_)
      refine lv_if_eq (tgt := 43) E.1 E.2.1 dX9_counter_31 (by decide) (fun c31 => ?_) (fun c31 => ?_)
      · replace hM := x_okT hM c31
        refine lv_iconst (v := (-1 : Int32)) E.1 E.2.1 dX9_counter_43 (by decide) ?_
        exact w_iret E S hM hr hk dX9_counter_44
      · replace hM := x_okF hM c31
        refine w_aload_n E hl 0 dX9_counter_34 rfl ?_
        refine w_rI E S hM lk_9_134 rfl dX9_counter_35 (fun v35 hM => ?_)
        refine lv_bipush (v := (10 : Int32)) E.1 E.2.1 dX9_counter_38 (by decide) ?_
        refine lv_icmp_ne (tgt := 45) E.1 E.2.1 dX9_counter_40 (by decide) (fun c40 => ?_) (fun c40 => ?_)
        · replace hM := x_okF hM c40
          refine w_aload_n E hl 0 dX9_counter_45 rfl ?_
          refine w_rR E S hM lk_9_9 rfl dX9_counter_46 (fun v46 hM => ?_)
          refine w_aload_n E hl 0 dX9_counter_49 rfl ?_
          refine w_rI E S hM lk_9_134 rfl dX9_counter_50 (fun v50 hM => ?_)
          refine w_iload_n E hl 1 dX9_counter_53 rfl ?_
          refine w_sI E S hM dX9_counter_54 (fun σ H locs S hM => ?_)
          refine w_aload_n E hl 0 dX9_counter_55 rfl ?_
          refine w_rR E S hM lk_9_13 rfl dX9_counter_56 (fun v56 hM => ?_)
          refine w_aload_n E hl 0 dX9_counter_59 rfl ?_
          refine w_rI E S hM lk_9_134 rfl dX9_counter_60 (fun v60 hM => ?_)
          refine w_iload_n E hl 2 dX9_counter_63 rfl ?_
          refine w_sI E S hM dX9_counter_64 (fun σ H locs S hM => ?_)
          refine w_aload_n E hl 0 dX9_counter_65 rfl ?_
          refine w_rR E S hM lk_9_16 rfl dX9_counter_66 (fun v66 hM => ?_)
          refine w_aload_n E hl 0 dX9_counter_69 rfl ?_
          refine w_rI E S hM lk_9_134 rfl dX9_counter_70 (fun v70 hM => ?_)
          refine w_iload_n E hl 3 dX9_counter_73 rfl ?_
          refine w_sI E S hM dX9_counter_74 (fun σ H locs S hM => ?_)
          refine w_aload_n E hl 0 dX9_counter_75 rfl ?_
          refine lv_dup E.1 E.2.1 dX9_counter_76 (x_cat _) ?_
          refine w_rI E S hM lk_9_134 rfl dX9_counter_77 (fun v77 hM => ?_)
          refine lv_iconst (v := (1 : Int32)) E.1 E.2.1 dX9_counter_80 (by decide) ?_
          refine lv_iadd E.1 E.2.1 dX9_counter_81 ?_
          refine w_wI E S hM lk_9_134 rfl (Or.inl rfl) dX9_counter_82 (fun σ H locs S hM => ?_)
          refine w_aload_n E hl 0 dX9_counter_85 rfl ?_
          refine w_rI E S hM lk_9_134 rfl dX9_counter_86 (fun v86 hM => ?_)
          refine lv_iconst (v := (1 : Int32)) E.1 E.2.1 dX9_counter_89 (by decide) ?_
          refine lv_isub E.1 E.2.1 dX9_counter_90 ?_
          exact w_iret E S hM hr hk dX9_counter_91
        · replace hM := x_okT hM c40
          refine lv_iconst (v := (-1 : Int32)) E.1 E.2.1 dX9_counter_43 (by decide) ?_
          exact w_iret E S hM hr hk dX9_counter_44
theorem dX9_isOpen_0 : decode cX9_isOpen 0 = .ok (.aload_n 0, 1) := by decide +kernel
theorem dX9_isOpen_1 : decode cX9_isOpen 1 = .ok (.getfield 146, 3) := by decide +kernel
theorem dX9_isOpen_4 : decode cX9_isOpen 4 = .ok (.sipush 1440, 3) := by decide +kernel
theorem dX9_isOpen_7 : decode cX9_isOpen 7 = .ok (.irem, 1) := by decide +kernel
theorem dX9_isOpen_8 : decode cX9_isOpen 8 = .ok (.aload_n 0, 1) := by decide +kernel
theorem dX9_isOpen_9 : decode cX9_isOpen 9 = .ok (.getfield 13, 3) := by decide +kernel
theorem dX9_isOpen_12 : decode cX9_isOpen 12 = .ok (.iload_n 1, 1) := by decide +kernel
theorem dX9_isOpen_13 : decode cX9_isOpen 13 = .ok (.iaload, 1) := by decide +kernel
theorem dX9_isOpen_14 : decode cX9_isOpen 14 = .ok (.aload_n 0, 1) := by decide +kernel
theorem dX9_isOpen_15 : decode cX9_isOpen 15 = .ok (.getfield 16, 3) := by decide +kernel
theorem dX9_isOpen_18 : decode cX9_isOpen 18 = .ok (.iload_n 1, 1) := by decide +kernel
theorem dX9_isOpen_19 : decode cX9_isOpen 19 = .ok (.iaload, 1) := by decide +kernel
theorem dX9_isOpen_20 : decode cX9_isOpen 20 = .ok (.iconst 1, 1) := by decide +kernel
theorem dX9_isOpen_21 : decode cX9_isOpen 21 = .ok (.isub, 1) := by decide +kernel
theorem dX9_isOpen_22 : decode cX9_isOpen 22 = .ok (.invokestatic 138, 3) := by decide +kernel
theorem dX9_isOpen_25 : decode cX9_isOpen 25 = .ok (.ireturn, 1) := by decide +kernel
theorem mcX9_isOpen : x_mc yX9_isOpen cX9_isOpen 2 (some .boolean) 1 := ⟨wd_798, wd_4, by decide +kernel⟩
set_option maxHeartbeats 4000000 in
set_option maxRecDepth 100000 in
theorem kX9_isOpen (l : Launch) (base : Nat) (D : va_G) (dA : Nat → ClassId) (F : Nat) (r0 : Option Nat) (x1 : Int32) : x_Met l base D dA yX9_isOpen cX9_isOpen 2 (some .boolean) 1 22 [va_rf r0, .int x1] (mX9_isOpen F r0 x1) (fun x => some (.int x)) := by
  refine x_Met.of [(0, .inr (.inl r0)), (1, .inl x1)] (by decide) (Nat.le_of_ble_eq_true rfl) rfl rfl ?_
  intro p e R s m args below meth c σ a τ ls hfr hlo E hr hk hn S hM hl
  have E : x_E p s m args c cX9_isOpen 2 "WireMoneyModel" D dA := E
  unfold mX9_isOpen at hM
  refine w_aload_n E hl 0 dX9_isOpen_0 rfl ?_
  refine w_rI E S hM lk_9_146 rfl dX9_isOpen_1 (fun v1 hM => ?_)
  refine lv_sipush (v := (1440 : Int32)) E.1 E.2.1 dX9_isOpen_4 (by decide) ?_
  refine w_irem E dX9_isOpen_7 (by decide) ?_
  refine w_aload_n E hl 0 dX9_isOpen_8 rfl ?_
  refine w_rR E S hM lk_9_13 rfl dX9_isOpen_9 (fun v9 hM => ?_)
  refine w_iload_n E hl 1 dX9_isOpen_12 rfl ?_
  refine w_aI E S hM dX9_isOpen_13 (fun v13 hM => ?_)
  refine w_aload_n E hl 0 dX9_isOpen_14 rfl ?_
  refine w_rR E S hM lk_9_16 rfl dX9_isOpen_15 (fun v15 hM => ?_)
  refine w_iload_n E hl 1 dX9_isOpen_18 rfl ?_
  refine w_aI E S hM dX9_isOpen_19 (fun v19 hM => ?_)
  refine lv_iconst (v := (1 : Int32)) E.1 E.2.1 dX9_isOpen_20 (by decide) ?_
  refine lv_isub E.1 E.2.1 dX9_isOpen_21 ?_
  refine w_cSi (rest := []) E S hl hM (kX9_in l base D dA F (x_rem v1 (1440 : Int32)) v13 (v19 - (1 : Int32))) mcX9_in ⟨wd_762, wd_763⟩ hfr hlo (by decide) rfl (Nat.le_of_ble_eq_true rfl) dX9_isOpen_22 rfl (fun v22 σ H locs S hM => ?_)
  exact w_zret E S hM hr hk dX9_isOpen_25
theorem dX9_wire_0 : decode cX9_wire 0 = .ok (.aload_n 0, 1) := by decide +kernel
theorem dX9_wire_1 : decode cX9_wire 1 = .ok (.iload_n 1, 1) := by decide +kernel
theorem dX9_wire_2 : decode cX9_wire 2 = .ok (.invokevirtual 152, 3) := by decide +kernel
theorem dX9_wire_5 : decode cX9_wire 5 = .ok (.ifCond .eq 35, 3) := by decide +kernel
theorem dX9_wire_8 : decode cX9_wire 8 = .ok (.aload_n 0, 1) := by decide +kernel
theorem dX9_wire_9 : decode cX9_wire 9 = .ok (.iload_n 2, 1) := by decide +kernel
theorem dX9_wire_10 : decode cX9_wire 10 = .ok (.invokevirtual 152, 3) := by decide +kernel
theorem dX9_wire_13 : decode cX9_wire 13 = .ok (.ifCond .eq 27, 3) := by decide +kernel
theorem dX9_wire_16 : decode cX9_wire 16 = .ok (.iload_n 1, 1) := by decide +kernel
theorem dX9_wire_17 : decode cX9_wire 17 = .ok (.iload_n 2, 1) := by decide +kernel
theorem dX9_wire_18 : decode cX9_wire 18 = .ok (.if_icmp .eq 22, 3) := by decide +kernel
theorem dX9_wire_21 : decode cX9_wire 21 = .ok (.iload_n 3, 1) := by decide +kernel
theorem dX9_wire_22 : decode cX9_wire 22 = .ok (.iconst 1, 1) := by decide +kernel
theorem dX9_wire_23 : decode cX9_wire 23 = .ok (.bipush 60, 2) := by decide +kernel
theorem dX9_wire_25 : decode cX9_wire 25 = .ok (.invokestatic 138, 3) := by decide +kernel
theorem dX9_wire_28 : decode cX9_wire 28 = .ok (.ifCond .eq 12, 3) := by decide +kernel
theorem dX9_wire_31 : decode cX9_wire 31 = .ok (.aload_n 0, 1) := by decide +kernel
theorem dX9_wire_32 : decode cX9_wire 32 = .ok (.getfield 149, 3) := by decide +kernel
theorem dX9_wire_35 : decode cX9_wire 35 = .ok (.bipush 15, 2) := by decide +kernel
theorem dX9_wire_37 : decode cX9_wire 37 = .ok (.if_icmp .ne 5, 3) := by decide +kernel
theorem dX9_wire_40 : decode cX9_wire 40 = .ok (.iconst (-1), 1) := by decide +kernel
theorem dX9_wire_41 : decode cX9_wire 41 = .ok (.ireturn, 1) := by decide +kernel
theorem dX9_wire_42 : decode cX9_wire 42 = .ok (.aload_n 0, 1) := by decide +kernel
theorem dX9_wire_43 : decode cX9_wire 43 = .ok (.getfield 25, 3) := by decide +kernel
theorem dX9_wire_46 : decode cX9_wire 46 = .ok (.aload_n 0, 1) := by decide +kernel
theorem dX9_wire_47 : decode cX9_wire 47 = .ok (.getfield 149, 3) := by decide +kernel
theorem dX9_wire_50 : decode cX9_wire 50 = .ok (.iload_n 1, 1) := by decide +kernel
theorem dX9_wire_51 : decode cX9_wire 51 = .ok (.iastore, 1) := by decide +kernel
theorem dX9_wire_52 : decode cX9_wire 52 = .ok (.aload_n 0, 1) := by decide +kernel
theorem dX9_wire_53 : decode cX9_wire 53 = .ok (.getfield 28, 3) := by decide +kernel
theorem dX9_wire_56 : decode cX9_wire 56 = .ok (.aload_n 0, 1) := by decide +kernel
theorem dX9_wire_57 : decode cX9_wire 57 = .ok (.getfield 149, 3) := by decide +kernel
theorem dX9_wire_60 : decode cX9_wire 60 = .ok (.iload_n 2, 1) := by decide +kernel
theorem dX9_wire_61 : decode cX9_wire 61 = .ok (.iastore, 1) := by decide +kernel
theorem dX9_wire_62 : decode cX9_wire 62 = .ok (.aload_n 0, 1) := by decide +kernel
theorem dX9_wire_63 : decode cX9_wire 63 = .ok (.getfield 31, 3) := by decide +kernel
theorem dX9_wire_66 : decode cX9_wire 66 = .ok (.aload_n 0, 1) := by decide +kernel
theorem dX9_wire_67 : decode cX9_wire 67 = .ok (.getfield 149, 3) := by decide +kernel
theorem dX9_wire_70 : decode cX9_wire 70 = .ok (.iload_n 3, 1) := by decide +kernel
theorem dX9_wire_71 : decode cX9_wire 71 = .ok (.iastore, 1) := by decide +kernel
theorem dX9_wire_72 : decode cX9_wire 72 = .ok (.aload_n 0, 1) := by decide +kernel
theorem dX9_wire_73 : decode cX9_wire 73 = .ok (.dup, 1) := by decide +kernel
theorem dX9_wire_74 : decode cX9_wire 74 = .ok (.getfield 149, 3) := by decide +kernel
theorem dX9_wire_77 : decode cX9_wire 77 = .ok (.iconst 1, 1) := by decide +kernel
theorem dX9_wire_78 : decode cX9_wire 78 = .ok (.iadd, 1) := by decide +kernel
theorem dX9_wire_79 : decode cX9_wire 79 = .ok (.putfield 149, 3) := by decide +kernel
theorem dX9_wire_82 : decode cX9_wire 82 = .ok (.aload_n 0, 1) := by decide +kernel
theorem dX9_wire_83 : decode cX9_wire 83 = .ok (.invokevirtual 131, 3) := by decide +kernel
theorem dX9_wire_86 : decode cX9_wire 86 = .ok (.aload_n 0, 1) := by decide +kernel
theorem dX9_wire_87 : decode cX9_wire 87 = .ok (.getfield 149, 3) := by decide +kernel
theorem dX9_wire_90 : decode cX9_wire 90 = .ok (.iconst 1, 1) := by decide +kernel
theorem dX9_wire_91 : decode cX9_wire 91 = .ok (.isub, 1) := by decide +kernel
theorem dX9_wire_92 : decode cX9_wire 92 = .ok (.ireturn, 1) := by decide +kernel
theorem mcX9_wire : x_mc yX9_wire cX9_wire 4 (some .int) 3 := ⟨wd_768, wd_4, by decide +kernel⟩
set_option maxHeartbeats 4000000 in
set_option maxRecDepth 100000 in
theorem kX9_wire (l : Launch) (base : Nat) (D : va_G) (dA : Nat → ClassId) (F : Nat) (r0 : Option Nat) (x1 : Int32) (x2 : Int32) (x3 : Int32) : x_Met l base D dA yX9_wire cX9_wire 4 (some .int) 2 43 [va_rf r0, .int x1, .int x2, .int x3] (mX9_wire F r0 x1 x2 x3) (fun x => some (.int x)) := by
  refine x_Met.of [(0, .inr (.inl r0)), (1, .inl x1), (2, .inl x2), (3, .inl x3)] (by decide) (Nat.le_of_ble_eq_true rfl) rfl rfl ?_
  intro p e R s m args below meth c σ a τ ls hfr hlo E hr hk hn S hM hl
  have E : x_E p s m args c cX9_wire 4 "WireMoneyModel" D dA := E
  unfold mX9_wire at hM
  refine w_aload_n E hl 0 dX9_wire_0 rfl ?_
  refine w_iload_n E hl 1 dX9_wire_1 rfl ?_
  refine w_cVi (rest := []) E S hl hM (kX9_isCounter l base D dA F r0 x1) mcX9_isCounter ⟨by decide, rfl, wd_769, wd_771, wp_22⟩ hfr hlo (by decide) rfl (Nat.le_of_ble_eq_true rfl) dX9_wire_2 rfl (fun v2 σ H locs S hM => ?_)
  refine lv_if_eq (tgt := 40) E.1 E.2.1 dX9_wire_5 (by decide) (fun c5 => ?_) (fun c5 => ?_)
  · replace hM := x_okT hM c5
    refine lv_iconst (v := (-1 : Int32)) E.1 E.2.1 dX9_wire_40 (by decide) ?_
    exact w_iret E S hM hr hk dX9_wire_41
  · replace hM := x_okF hM c5
    refine w_aload_n E hl 0 dX9_wire_8 rfl ?_
    refine w_iload_n E hl 2 dX9_wire_9 rfl ?_
    refine w_cVi (rest := []) E S hl hM (kX9_isCounter l base D dA F r0 x2) mcX9_isCounter ⟨by decide, rfl, wd_769, wd_771, wp_22⟩ hfr hlo (by decide) rfl (Nat.le_of_ble_eq_true rfl) dX9_wire_10 rfl (fun v10 σ H locs S hM => ?_)
    refine lv_if_eq (tgt := 40) E.1 E.2.1 dX9_wire_13 (by decide) (fun c13 => ?_) (fun c13 => ?_)
    · replace hM := x_okT hM c13
      refine lv_iconst (v := (-1 : Int32)) E.1 E.2.1 dX9_wire_40 (by decide) ?_
      exact w_iret E S hM hr hk dX9_wire_41
    · replace hM := x_okF hM c13
      refine w_iload_n E hl 1 dX9_wire_16 rfl ?_
      refine w_iload_n E hl 2 dX9_wire_17 rfl ?_
      refine lv_icmp_eq (tgt := 40) E.1 E.2.1 dX9_wire_18 (by decide) (fun c18 => ?_) (fun c18 => ?_)
      · replace hM := x_okT hM c18
        refine lv_iconst (v := (-1 : Int32)) E.1 E.2.1 dX9_wire_40 (by decide) ?_
        exact w_iret E S hM hr hk dX9_wire_41
      · replace hM := x_okF hM c18
        refine w_iload_n E hl 3 dX9_wire_21 rfl ?_
        refine lv_iconst (v := (1 : Int32)) E.1 E.2.1 dX9_wire_22 (by decide) ?_
        refine lv_bipush (v := (60 : Int32)) E.1 E.2.1 dX9_wire_23 (by decide) ?_
        refine w_cSi (rest := []) E S hl hM (kX9_in l base D dA F x3 (1 : Int32) (60 : Int32)) mcX9_in ⟨wd_762, wd_763⟩ hfr hlo (by decide) rfl (Nat.le_of_ble_eq_true rfl) dX9_wire_25 rfl (fun v25 σ H locs S hM => ?_)
        refine lv_if_eq (tgt := 40) E.1 E.2.1 dX9_wire_28 (by decide) (fun c28 => ?_) (fun c28 => ?_)
        · replace hM := x_okT hM c28
          refine lv_iconst (v := (-1 : Int32)) E.1 E.2.1 dX9_wire_40 (by decide) ?_
          exact w_iret E S hM hr hk dX9_wire_41
        · replace hM := x_okF hM c28
          refine w_aload_n E hl 0 dX9_wire_31 rfl ?_
          refine w_rI E S hM lk_9_149 rfl dX9_wire_32 (fun v32 hM => ?_)
          refine lv_bipush (v := (15 : Int32)) E.1 E.2.1 dX9_wire_35 (by decide) ?_
          refine lv_icmp_ne (tgt := 42) E.1 E.2.1 dX9_wire_37 (by decide) (fun c37 => ?_) (fun c37 => ?_)
          · replace hM := x_okF hM c37
            refine w_aload_n E hl 0 dX9_wire_42 rfl ?_
            refine w_rR E S hM lk_9_25 rfl dX9_wire_43 (fun v43 hM => ?_)
            refine w_aload_n E hl 0 dX9_wire_46 rfl ?_
            refine w_rI E S hM lk_9_149 rfl dX9_wire_47 (fun v47 hM => ?_)
            refine w_iload_n E hl 1 dX9_wire_50 rfl ?_
            refine w_sI E S hM dX9_wire_51 (fun σ H locs S hM => ?_)
            refine w_aload_n E hl 0 dX9_wire_52 rfl ?_
            refine w_rR E S hM lk_9_28 rfl dX9_wire_53 (fun v53 hM => ?_)
            refine w_aload_n E hl 0 dX9_wire_56 rfl ?_
            refine w_rI E S hM lk_9_149 rfl dX9_wire_57 (fun v57 hM => ?_)
            refine w_iload_n E hl 2 dX9_wire_60 rfl ?_
            refine w_sI E S hM dX9_wire_61 (fun σ H locs S hM => ?_)
            refine w_aload_n E hl 0 dX9_wire_62 rfl ?_
            refine w_rR E S hM lk_9_31 rfl dX9_wire_63 (fun v63 hM => ?_)
            refine w_aload_n E hl 0 dX9_wire_66 rfl ?_
            refine w_rI E S hM lk_9_149 rfl dX9_wire_67 (fun v67 hM => ?_)
            refine w_iload_n E hl 3 dX9_wire_70 rfl ?_
            refine w_sI E S hM dX9_wire_71 (fun σ H locs S hM => ?_)
            refine w_aload_n E hl 0 dX9_wire_72 rfl ?_
            refine lv_dup E.1 E.2.1 dX9_wire_73 (x_cat _) ?_
            refine w_rI E S hM lk_9_149 rfl dX9_wire_74 (fun v74 hM => ?_)
            refine lv_iconst (v := (1 : Int32)) E.1 E.2.1 dX9_wire_77 (by decide) ?_
            refine lv_iadd E.1 E.2.1 dX9_wire_78 ?_
            refine w_wI E S hM lk_9_149 rfl (Or.inl rfl) dX9_wire_79 (fun σ H locs S hM => ?_)
            refine w_aload_n E hl 0 dX9_wire_82 rfl ?_
            refine w_cVv (rest := []) E S hl hM (kX9_reckons l base D dA F r0) mcX9_reckons ⟨by decide, rfl, wd_601, wd_603, wp_21⟩ hfr hlo (by decide) rfl (Nat.le_of_ble_eq_true rfl) dX9_wire_83 rfl (fun σ H locs S hM => ?_)
            refine w_aload_n E hl 0 dX9_wire_86 rfl ?_
            refine w_rI E S hM lk_9_149 rfl dX9_wire_87 (fun v87 hM => ?_)
            refine lv_iconst (v := (1 : Int32)) E.1 E.2.1 dX9_wire_90 (by decide) ?_
            refine lv_isub E.1 E.2.1 dX9_wire_91 ?_
            exact w_iret E S hM hr hk dX9_wire_92
          · replace hM := x_okT hM c37
            refine lv_iconst (v := (-1 : Int32)) E.1 E.2.1 dX9_wire_40 (by decide) ?_
            exact w_iret E S hM hr hk dX9_wire_41
