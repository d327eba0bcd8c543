section PO2
variable {b : Nat} {ad : Ad} {T T2 : Tb} {Q : Qs} {σ : PH} {s k : Nat}
theorem feL_cg {T' : Tb} {x : Int32} (h14 : T' 14 = T 14) (h15 : T' 15 = T 15) (h16 : T' 16 = T 16) : ∀ n, feL T' x n = feL T x n := by
  have e : cB T' = cB T := by unfold cB; rw [h14]
  intro n
  induction n with
  | zero => rfl
  | succ n ih => simp only [feL, h15, h16, e, ih]
theorem t_feeL2 (hb : isN (T 14 0) 9) (F : Nat) {x : Int32} (h1 : 1 ≤ x) (h2 : x ≤ 99999) : ∀ (d n : Nat), d ≤ cB T → d < n → tX9_fee_14 F n x (nI (cB T - d)) T = some (feL T x d, T) := by
  have hB : cB T ≤ 8 := Nat.lt_succ_iff.mp hb.2
  have hT : T 14 0 = nI (cB T) := hb.1
  intro d
  induction d with
  | zero =>
    intro n _ hn
    obtain ⟨n, rfl⟩ : ∃ m, n = m + 1 := ⟨n - 1, by omega⟩
    rw [tX9_fee_14]
    refine r_g rfl ?_
    refine r_t (by rw [hT, Nat.sub_zero]; exact nI_le (Nat.le_refl _) (by omega)) ?_
    rw [tm_ite]
    exact fe_dflt h1 h2
  | succ d ih =>
    intro n hd hn
    obtain ⟨n, rfl⟩ : ∃ m, n = m + 1 := ⟨n - 1, by omega⟩
    have c : ¬ T 14 0 ≤ nI (cB T - (d + 1)) := by rw [hT]; exact nI_ge (by omega) (by omega)
    have l8 : cB T - (d + 1) < 8 := by omega
    have e := ih n (by omega) (by omega)
    rw [tX9_fee_14]
    refine r_g rfl ?_
    refine r_f c ?_
    refine r_a rfl l8 rfl ?_
    by_cases c3 : T 15 (cB T - (d + 1)) < x
    · rw [show feL T x (d + 1) = feL T x d from if_pos c3]
      refine r_t c3 ?_
      refine r_q ?_
      rw [nI_s1 hd]
      exact e
    · rw [show feL T x (d + 1) = T 16 (cB T - (d + 1)) from if_neg c3]
      refine r_f c3 ?_
      refine r_a rfl l8 rfl ?_
      rfl
theorem t_fee2 (hb : isN (T 14 0) 9) {F : Nat} (hF : 8 < F) {x : Int32} (c : 1 ≤ x ∧ x ≤ 99999) : tX9_fee F x T = some (feL T x (cB T), T) := by
  have hB : cB T ≤ 8 := Nat.lt_succ_iff.mp hb.2
  have e := t_feeL2 hb F c.1 c.2 (cB T) F (Nat.le_refl _) (by omega)
  rw [Nat.sub_self] at e
  unfold tX9_fee
  refine r_st (t_in _ _ _ _ _) ?_
  refine r_f (bi_n c) ?_
  exact e
theorem t_least2 (hJ : JT s T) (F : Nat) {i j : Nat} (hi : i < cC T) (hj : j < cC T) : tX9_least F (nI i) (nI j) T = some (if Dm T i j < 1000000 then T 13 (10 * i + j) else -1, T) := by
  have hC := hJ.nC
  have t1 := t_isCounter hJ F (nI i)
  have t2 := t_isCounter hJ F (nI j)
  have l100 : 10 * i + j < 100 := by omega
  have e7 := hJ.ls _ l100
  have lt : (T 13 (10 * i + j) < (1000000 : Int32)) ↔ Dm T i j < 1000000 := by
    rw [i_lt, e7.ti (by omega)]
    show _ < (1000000 : Int) ↔ _
    unfold Dm
    omega
  unfold tX9_least
  refine r_st t1 ?_
  refine r_f (bi_n (in_nI hJ.C (by omega) hi)) ?_
  refine r_st t2 ?_
  refine r_f (bi_n (in_nI hJ.C (by omega) hj)) ?_
  refine r_a (nI10 i j) l100 rfl ?_
  by_cases c : Dm T i j < 1000000
  · rw [if_pos c]; exact r_t (lt.mpr c) rfl
  · rw [if_neg c]; exact r_f (fun q => c (lt.mp q)) rfl
theorem p_order (h : INV b ad T Q σ) {F : Nat} (hF : 1000 < F) (x y z u : Int32) : SIM b (mX8_order F (some b) x y z u) (mX9_order F (some (b + 12)) x y z u) σ := by
  obtain ⟨hX, hM, hJ, hQ, -, -, hR⟩ := id h
  have k1 := hX.fK.1
  have k2 := hX.fK.2.1
  have r1 := hX.fR.1
  have r3 := hX.fR.2.2.1
  have k11 := hX.fK.2.2.2.2.2.2.2.2.2.2.1
  have l10 := hX.fL.2.2.2.2.2.2.2.1
  have e1 := e_findCounter hX hJ F x
  have e2 := e_findCounter hX hJ F y
  have t1 := t_isCounter hJ F x
  have t2 := t_isCounter hJ F y
  have hTO : T 17 0 = nI (cO T) := hJ.O.1
  have hTM : T 30 0 = nI (cM T) := hJ.M.1
  have hO := hJ.nO
  have hMn := hJ.nM
  have hC := hJ.nC
  have hB := hR.1
  by_cases c1 : 0 ≤ x ∧ x < T 1 0
  case neg =>
    rw [fd_none.mpr c1] at e1
    refine SIM.read (g := tX9_order F x y z u) (r := -1) h ?_ (fun hk => sX9_order hk F x y z u) ?_
    · unfold mX8_order
      refine q_rR k1 r1 ?_
      refine q_cl k2 e1 ?_
      refine q_rR k1 r1 ?_
      refine q_cl k2 e2 ?_
      refine q_t rfl ?_
      exact q_e
    · unfold tX9_order
      refine r_st t1 ?_
      refine r_t (bi_z c1) ?_
      rfl
  obtain ⟨f1, f2⟩ := in_of hJ.C (by omega) c1
  have f3 : ix x < cC T := f2
  rw [fd_some c1] at e1
  by_cases c2 : 0 ≤ y ∧ y < T 1 0
  case neg =>
    rw [fd_none.mpr c2] at e2
    refine SIM.read (g := tX9_order F x y z u) (r := -1) h ?_ (fun hk => sX9_order hk F x y z u) ?_
    · unfold mX8_order
      refine q_rR k1 r1 ?_
      refine q_cl k2 e1 ?_
      refine q_rR k1 r1 ?_
      refine q_cl k2 e2 ?_
      refine q_f n_some ?_
      refine q_t rfl ?_
      exact q_e
    · unfold tX9_order
      refine r_st t1 ?_
      refine r_f (bi_n c1) ?_
      refine r_st t2 ?_
      refine r_t (bi_z c2) ?_
      rfl
  obtain ⟨g1, g2⟩ := in_of hJ.C (by omega) c2
  have g3 : ix y < cC T := g2
  rw [fd_some c2] at e2
  have hx : ix x < 10 := by omega
  have hy : ix y < 10 := by omega
  by_cases c3 : x = y
  case pos =>
    refine SIM.read (g := tX9_order F x y z u) (r := -1) h ?_ (fun hk => sX9_order hk F x y z u) ?_
    · unfold mX8_order
      refine q_rR k1 r1 ?_
      refine q_cl k2 e1 ?_
      refine q_rR k1 r1 ?_
      refine q_cl k2 e2 ?_
      refine q_f n_some ?_
      refine q_f n_some ?_
      refine q_t (by rw [c3]) ?_
      exact q_e
    · unfold tX9_order
      refine r_st t1 ?_
      refine r_f (bi_n c1) ?_
      refine r_st t2 ?_
      refine r_f (bi_n c2) ?_
      refine r_t c3 ?_
      rfl
  have c4 : ¬ ix x = ix y := fun q => c3 (by rw [f1, g1, q])
  have c5 : ¬ some (ad 1 (ix x)) = some (ad 1 (ix y)) := fun q => c4 ((hX.j1 _ _ f3 g3).mp (Option.some.inj q))
  have ew := e_hasWay hX hJ F f3 g3
  have tl := t_least2 hJ F f3 g3
  rw [← f1, ← g1] at tl
  by_cases d1 : Dm T (ix x) (ix y) < 1000000
  case neg =>
    rw [if_neg d1] at tl
    refine SIM.read (g := tX9_order F x y z u) (r := -1) h ?_ (fun hk => sX9_order hk F x y z u) ?_
    · unfold mX8_order
      refine q_rR k1 r1 ?_
      refine q_cl k2 e1 ?_
      refine q_rR k1 r1 ?_
      refine q_cl k2 e2 ?_
      refine q_f n_some ?_
      refine q_f n_some ?_
      refine q_f c5 ?_
      refine q_rR k1 r1 ?_
      refine q_cl k2 ew ?_
      refine q_t (bi_z d1) ?_
      exact q_e
    · unfold tX9_order
      refine r_st t1 ?_
      refine r_f (bi_n c1) ?_
      refine r_st t2 ?_
      refine r_f (bi_n c2) ?_
      refine r_f c3 ?_
      refine r_st tl ?_
      refine r_t rfl ?_
      rfl
  rw [if_pos d1] at tl
  have ml := isN_m1 (hJ.ls (10 * ix x + ix y) (by omega)) (by omega)
  by_cases d2 : 1 ≤ z ∧ z ≤ 99999
  case neg =>
    refine SIM.read (g := tX9_order F x y z u) (r := -1) h ?_ (fun hk => sX9_order hk F x y z u) ?_
    · unfold mX8_order
      refine q_rR k1 r1 ?_
      refine q_cl k2 e1 ?_
      refine q_rR k1 r1 ?_
      refine q_cl k2 e2 ?_
      refine q_f n_some ?_
      refine q_f n_some ?_
      refine q_f c5 ?_
      refine q_rR k1 r1 ?_
      refine q_cl k2 ew ?_
      refine q_f (bi_n d1) ?_
      refine q_st (e_within _ _ _ _ _) ?_
      refine q_t (bi_z d2) ?_
      exact q_e
    · unfold tX9_order
      refine r_st t1 ?_
      refine r_f (bi_n c1) ?_
      refine r_st t2 ?_
      refine r_f (bi_n c2) ?_
      refine r_f c3 ?_
      refine r_st tl ?_
      refine r_f ml ?_
      refine r_st (t_in _ _ _ _ _) ?_
      refine r_t (bi_z d2) ?_
      rfl
  by_cases d3 : 0 ≤ u ∧ u ≤ 9999
  case neg =>
    refine SIM.read (g := tX9_order F x y z u) (r := -1) h ?_ (fun hk => sX9_order hk F x y z u) ?_
    · unfold mX8_order
      refine q_rR k1 r1 ?_
      refine q_cl k2 e1 ?_
      refine q_rR k1 r1 ?_
      refine q_cl k2 e2 ?_
      refine q_f n_some ?_
      refine q_f n_some ?_
      refine q_f c5 ?_
      refine q_rR k1 r1 ?_
      refine q_cl k2 ew ?_
      refine q_f (bi_n d1) ?_
      refine q_st (e_within _ _ _ _ _) ?_
      refine q_f (bi_n d2) ?_
      refine q_st (e_within _ _ _ _ _) ?_
      refine q_t (bi_z d3) ?_
      exact q_e
    · unfold tX9_order
      refine r_st t1 ?_
      refine r_f (bi_n c1) ?_
      refine r_st t2 ?_
      refine r_f (bi_n c2) ?_
      refine r_f c3 ?_
      refine r_st tl ?_
      refine r_f ml ?_
      refine r_st (t_in _ _ _ _ _) ?_
      refine r_f (bi_n d2) ?_
      refine r_st (t_in _ _ _ _ _) ?_
      refine r_t (bi_z d3) ?_
      rfl
  have eo := e_isOpen hX F f3 (T 0 0)
  have to := t_isOpen hJ F f3
  rw [← f1] at to
  have kx := hX.k1 _ f3
  by_cases d4 : T 3 (ix x) ≤ x_rem (T 0 0) 1440 ∧ x_rem (T 0 0) 1440 < T 4 (ix x)
  case neg =>
    refine SIM.read (g := tX9_order F x y z u) (r := -1) h ?_ (fun hk => sX9_order hk F x y z u) ?_
    · unfold mX8_order
      refine q_rR k1 r1 ?_
      refine q_cl k2 e1 ?_
      refine q_rR k1 r1 ?_
      refine q_cl k2 e2 ?_
      refine q_f n_some ?_
      refine q_f n_some ?_
      refine q_f c5 ?_
      refine q_rR k1 r1 ?_
      refine q_cl k2 ew ?_
      refine q_f (bi_n d1) ?_
      refine q_st (e_within _ _ _ _ _) ?_
      refine q_f (bi_n d2) ?_
      refine q_st (e_within _ _ _ _ _) ?_
      refine q_f (bi_n d3) ?_
      refine q_rI k1 hX.z806 ?_
      refine q_cl kx eo ?_
      refine q_t (bi_z d4) ?_
      exact q_e
    · unfold tX9_order
      refine r_st t1 ?_
      refine r_f (bi_n c1) ?_
      refine r_st t2 ?_
      refine r_f (bi_n c2) ?_
      refine r_f c3 ?_
      refine r_st tl ?_
      refine r_f ml ?_
      refine r_st (t_in _ _ _ _ _) ?_
      refine r_f (bi_n d2) ?_
      refine r_st (t_in _ _ _ _ _) ?_
      refine r_f (bi_n d3) ?_
      refine r_st to ?_
      refine r_t (bi_z d4) ?_
      rfl
  by_cases d5 : cO T < 200
  case neg =>
    refine SIM.read (g := tX9_order F x y z u) (r := -1) h ?_ (fun hk => sX9_order hk F x y z u) ?_
    · unfold mX8_order
      refine q_rR k1 r1 ?_
      refine q_cl k2 e1 ?_
      refine q_rR k1 r1 ?_
      refine q_cl k2 e2 ?_
      refine q_f n_some ?_
      refine q_f n_some ?_
      refine q_f c5 ?_
      refine q_rR k1 r1 ?_
      refine q_cl k2 ew ?_
      refine q_f (bi_n d1) ?_
      refine q_st (e_within _ _ _ _ _) ?_
      refine q_f (bi_n d2) ?_
      refine q_st (e_within _ _ _ _ _) ?_
      refine q_f (bi_n d3) ?_
      refine q_rI k1 hX.z806 ?_
      refine q_cl kx eo ?_
      refine q_f (bi_n d4) ?_
      refine q_rI k1 (hX.z804.trans hTO) ?_
      refine q_rR k1 r3 ?_
      refine q_aL k11 l10 ?_
      refine q_t (nI_le (by omega) (by omega)) ?_
      exact q_e
    · unfold tX9_order
      refine r_st t1 ?_
      refine r_f (bi_n c1) ?_
      refine r_st t2 ?_
      refine r_f (bi_n c2) ?_
      refine r_f c3 ?_
      refine r_st tl ?_
      refine r_f ml ?_
      refine r_st (t_in _ _ _ _ _) ?_
      refine r_f (bi_n d2) ?_
      refine r_st (t_in _ _ _ _ _) ?_
      refine r_f (bi_n d3) ?_
      refine r_st to ?_
      refine r_f (bi_n d4) ?_
      refine r_g hTO ?_
      refine r_t (by rw [show cO T = 200 by omega]; rfl) ?_
      rfl
  have ec := e_canWrite hX hJ F
  have n200 : ¬ nI (cO T) = (200 : Int32) := fun q => by
    have := congrArg ix q
    rw [ix_nI (by omega)] at this
    have e : ix (200 : Int32) = 200 := rfl
    omega
  by_cases d6 : cM T < 1000
  case neg =>
    refine SIM.read (g := tX9_order F x y z u) (r := -1) h ?_ (fun hk => sX9_order hk F x y z u) ?_
    · unfold mX8_order
      refine q_rR k1 r1 ?_
      refine q_cl k2 e1 ?_
      refine q_rR k1 r1 ?_
      refine q_cl k2 e2 ?_
      refine q_f n_some ?_
      refine q_f n_some ?_
      refine q_f c5 ?_
      refine q_rR k1 r1 ?_
      refine q_cl k2 ew ?_
      refine q_f (bi_n d1) ?_
      refine q_st (e_within _ _ _ _ _) ?_
      refine q_f (bi_n d2) ?_
      refine q_st (e_within _ _ _ _ _) ?_
      refine q_f (bi_n d3) ?_
      refine q_rI k1 hX.z806 ?_
      refine q_cl kx eo ?_
      refine q_f (bi_n d4) ?_
      refine q_rI k1 (hX.z804.trans hTO) ?_
      refine q_rR k1 r3 ?_
      refine q_aL k11 l10 ?_
      refine q_f (nI_ge d5 (by decide)) ?_
      refine q_cl k1 ec ?_
      refine q_t (bi_z d6) ?_
      exact q_e
    · unfold tX9_order
      refine r_st t1 ?_
      refine r_f (bi_n c1) ?_
      refine r_st t2 ?_
      refine r_f (bi_n c2) ?_
      refine r_f c3 ?_
      refine r_st tl ?_
      refine r_f ml ?_
      refine r_st (t_in _ _ _ _ _) ?_
      refine r_f (bi_n d2) ?_
      refine r_st (t_in _ _ _ _ _) ?_
      refine r_f (bi_n d3) ?_
      refine r_st to ?_
      refine r_f (bi_n d4) ?_
      refine r_g hTO ?_
      refine r_f n200 ?_
      refine r_g hTM ?_
      refine r_t (by rw [show cM T = 1000 by omega]; rfl) ?_
      rfl
  have n1000 : ¬ nI (cM T) = (1000 : Int32) := fun q => by
    have := congrArg ix q
    rw [ix_nI (by omega)] at this
    have e : ix (1000 : Int32) = 1000 := rfl
    omega
  have jz : isN z 100000 := by
    have q1 := d2.1
    have q2 := d2.2
    rw [i_le] at q1 q2
    refine i_in (by rw [i_le]; show (0 : Int) ≤ _; have : (1 : Int) ≤ z.toInt := q1; omega) ?_ (by decide)
    rw [i_lt, i_nI (by decide)]
    have : z.toInt ≤ 99999 := q2
    omega
  have ju : isN u 10000 := by
    have q2 := d3.2
    rw [i_le] at q2
    refine i_in d3.1 ?_ (by decide)
    rw [i_lt, i_nI (by decide)]
    have : u.toInt ≤ 9999 := q2
    omega
  have jx : isN x (cC T) := ⟨f1, f3⟩
  have jy : isN y (cC T) := ⟨g1, g3⟩
  obtain ⟨σ1, ad', ei, X1, g0, hN, hA1, hA4⟩ := h.x.newO d5 F (f := x) (t := y) (sm := z) (wd := u) (feL T z (cB T)) jx jy c4 jz ju d1
  have ef := e_feeOf X1 hJ (F := F) (by omega) z
  have hN2 := hN.u2 (j := ix x) f3 (T 2 (ix x) + (z + feL T z (cB T)))
  have hN5 := hN2.u5 (j := ix x) f3 (T 5 (ix x) + feL T z (cB T))
  have oN : cO T < cO (tO T x y z u (feL T z (cB T))) := by
    show cO T < ix (nI (cO T + 1))
    rw [ix_nI (by omega)]; omega
  obtain ⟨σ', ad'', T', Q', w1, w2, w3, -, w5, -, w7, -⟩ := hN5.write (by omega) hF (kd := 0) (o := cO T) oN (f := x) (t := y) (Or.inl ⟨Or.inl rfl, (x_up_s T 18 (cO T) x).symm, (x_up_s T 19 (cO T) y).symm⟩)
  have fX := hN.fx
  have kx2 := fX.k1 _ f3
  have cx3 := fX.c3 _ f3
  have cx5 := fX.c5 _ f3
  rw [hA1] at kx2 cx3 cx5 w1
  rw [hA4] at w1
  have hA4'' : ad'' 4 (cO T) = x_N σ := by rw [w5]; exact hA4
  have oT' : cO T < cO T' := by
    unfold cO
    rw [w7]
    exact oN
  have kf := w3.fx.k4 _ oT'
  have of0 := w3.fx.o0 _ oT'
  rw [hA4''] at kf of0
  refine SIM.write (g := tX9_order F x y z u) (r := nI (cO T)) w3 ?_ (fun hk => sX9_order hk F x y z u) ?_
  · have kb : x_K (x_nO σ 4) b = 9 := by rw [K_nO, if_neg (by omega)]; exact k1
    have zb : x_I (x_nO σ 4) 804 b = nI (cO T) := by rw [I_nO, if_neg (by omega)]; exact hX.z804.trans hTO
    unfold mX8_order
    refine q_rR k1 r1 ?_
    refine q_cl k2 e1 ?_
    refine q_rR k1 r1 ?_
    refine q_cl k2 e2 ?_
    refine q_f n_some ?_
    refine q_f n_some ?_
    refine q_f c5 ?_
    refine q_rR k1 r1 ?_
    refine q_cl k2 ew ?_
    refine q_f (bi_n d1) ?_
    refine q_st (e_within _ _ _ _ _) ?_
    refine q_f (bi_n d2) ?_
    refine q_st (e_within _ _ _ _ _) ?_
    refine q_f (bi_n d3) ?_
    refine q_rI k1 hX.z806 ?_
    refine q_cl kx eo ?_
    refine q_f (bi_n d4) ?_
    refine q_rI k1 (hX.z804.trans hTO) ?_
    refine q_rR k1 r3 ?_
    refine q_aL k11 l10 ?_
    refine q_f (nI_ge d5 (by decide)) ?_
    refine q_cl k1 ec ?_
    refine q_f (bi_n d6) ?_
    refine q_mO ?_
    refine q_rI kb zb ?_
    refine q_st ei ?_
    refine q_rR X1.fK.1 X1.fR.2.1 ?_
    refine q_cl X1.fK.2.2.2.2.2.2.2.1 ef ?_
    refine q_wI g0 ?_
    refine q_rR X1.fK.1 X1.fR.2.2.1 ?_
    refine q_rI X1.fK.1 (X1.z804.trans hTO) ?_
    refine q_sQ rfl X1.fK.2.2.2.2.2.2.2.2.2.2.1 X1.fL.2.2.2.2.2.2.2.1 d5 (by decide) (by show (x_K σ1 (x_N σ) == 4 + 1) = true; rw [g0]; rfl) ?_
    refine q_rI X1.fK.1 (X1.z804.trans hTO) ?_
    refine q_wI X1.fK.1 ?_
    rw [nI_1]
    refine q_rI kx2 cx3 ?_
    refine q_rI (show x_K σ1 (x_N σ) = 4 + 1 from g0) (x_up_s _ 405 _ _) ?_
    refine q_wI kx2 ?_
    refine q_rI kx2 cx5 ?_
    refine q_rI (show x_K σ1 (x_N σ) = 4 + 1 from g0) (x_up_s _ 405 _ _) ?_
    refine q_wI kx2 ?_
    refine q_cl fX.fK.1 w1 ?_
    refine q_rI kf of0 ?_
    exact q_e
  · have tf : ∀ U : Tb, isN (U 14 0) 9 → U 14 = T 14 → U 15 = T 15 → U 16 = T 16 → tX9_fee F z U = some (feL T z (cB T), U) := by
      intro U hU h14 h15 h16
      rw [t_fee2 hU (by omega) d2, feL_cg h14 h15 h16]
      have : cB U = cB T := by unfold cB; rw [h14]
      rw [this]
    unfold tX9_order
    refine r_st t1 ?_
    refine r_f (bi_n c1) ?_
    refine r_st t2 ?_
    refine r_f (bi_n c2) ?_
    refine r_f c3 ?_
    refine r_st tl ?_
    refine r_f ml ?_
    refine r_st (t_in _ _ _ _ _) ?_
    refine r_f (bi_n d2) ?_
    refine r_st (t_in _ _ _ _ _) ?_
    refine r_f (bi_n d3) ?_
    refine r_st to ?_
    refine r_f (bi_n d4) ?_
    refine r_g hTO ?_
    refine r_f n200 ?_
    refine r_g hTM ?_
    refine r_f n1000 ?_
    refine r_g hTO ?_
    refine r_s rfl d5 ?_
    refine r_s rfl d5 ?_
    refine r_s rfl d5 ?_
    refine r_s rfl d5 ?_
    refine r_st (tf _ hJ.B rfl rfl rfl) ?_
    refine r_s rfl d5 ?_
    refine r_s rfl d5 ?_
    refine r_g hTO ?_
    refine r_p ?_
    rw [nI_1]
    refine r_a f1 hx rfl ?_
    refine r_a rfl d5 (x_up_s T 22 _ _) ?_
    refine r_s f1 hx ?_
    refine r_a f1 hx rfl ?_
    refine r_a rfl d5 (x_up_s T 22 _ _) ?_
    refine r_s f1 hx ?_
    refine r_st w2 ?_
    rfl
end PO2
