theorem x_upA {α : Type} (f : Nat → Nat → α) (i j : Nat) (v : α) (x y : Nat) : x_up f i j v x y = if x = i ∧ y = j then v else f x y := rfl
section PC
variable {b : Nat} {ad : Ad} {T : Tb} {Q : Qs} {σ : PH} {s k : Nat}
theorem INX.fx {T2 : Tb} (h : INX s k b ad T Q T2 σ) : RX b ad T Q σ := h.1
theorem INX.j {T2 : Tb} (h : INX s k b ad T Q T2 σ) : JT s T := h.2.2.1
theorem p_down (h : INV b ad T Q σ) (F : Nat) (x y z : Int32) : SIM b (mX8_down F (some b) x y z) (mX9_down F (some (b + 12)) x y z) σ := by
  obtain ⟨hX, hM, hJ, -⟩ := id h
  have k1 := hX.fK.1
  have k2 := hX.fK.2.1
  have r1 := hX.fR.1
  have z6 := hX.z806
  have e1 := e_findWire hX hJ F x
  have tM : tX9_in F x 0 (T 7 0 - 1) T = some (bi (0 ≤ x ∧ x < T 7 0), T) := by
    rw [t_in]
    simp only [le_sub1 hJ.W (by omega : 16 ≤ 2147483648)]
  by_cases c1 : 0 ≤ x ∧ x < T 7 0
  · obtain ⟨f1, f2⟩ := in_of hJ.W (by omega) c1
    have f3 : ix x < cW T := f2
    have hw := hJ.nW
    rw [fd_some c1] at e1
    have k7 := hX.k7 _ f3
    by_cases c2 : y < T 0 0
    · refine SIM.read (g := tX9_down F x y z) (r := 0) h ?_ (fun hk => sX9_down hk F x y z) ?_
      · unfold mX8_down
        simp [rn_bd, rn_pr, rn_fl, rn_ite, rn_rI, rn_rR, rn_wI, rn_wZ1, rn_wR, rn_aI, rn_aQ, rn_aL, rn_sI, rn_sQ, rn_mO, rn_cV, Option.bind_some, Option.bind_none, k1, k2, r1, z6, e1, c2]
      · unfold tX9_down
        simp [tm_ite, t_bd, t_pr, t_g, t_p, t_fl, Option.bind_some, Option.bind_none, tM, bi, c1, c2]
    by_cases c3 : y < z
    · have hz : 0 ≤ z := by
        have q0 := hJ.nw
        have q1 := i_nlt.mp c2
        rw [i_le, q0.ti (by omega)] at q1
        rw [i_lt] at c3
        rw [i_le]
        show (0 : Int) ≤ _
        omega
      have t1 := ts (k := 11) (i := ix x) y T (show ix x < 15 by omega)
      have t2 := ts (k := 12) (i := ix x) z (x_up T 11 (ix x) y) (show ix x < 15 by omega)
      rw [← f1] at t1 t2
      have u1 := (h.x.u11 f3 y).u12 (j := ix x) f3 z hz
      refine SIM.write (g := tX9_down F x y z) (r := 1) u1 ?_ (fun hk => sX9_down hk F x y z) ?_
      · unfold mX8_down
        simp [rn_bd, rn_pr, rn_fl, rn_ite, rn_rI, rn_rR, rn_wI, rn_wZ1, rn_wR, rn_aI, rn_aQ, rn_aL, rn_sI, rn_sQ, rn_mO, rn_cV, Option.bind_some, Option.bind_none, k1, k2, r1, z6, e1, c2, c3, k7, K_uI]
      · unfold tX9_down
        simp [tm_ite, t_bd, t_pr, t_g, t_p, t_fl, Option.bind_some, Option.bind_none, tM, bi, c1, c2, c3, t1, t2]
    · refine SIM.read (g := tX9_down F x y z) (r := 0) h ?_ (fun hk => sX9_down hk F x y z) ?_
      · unfold mX8_down
        simp [rn_bd, rn_pr, rn_fl, rn_ite, rn_rI, rn_rR, rn_wI, rn_wZ1, rn_wR, rn_aI, rn_aQ, rn_aL, rn_sI, rn_sQ, rn_mO, rn_cV, Option.bind_some, Option.bind_none, k1, k2, r1, z6, e1, c2, c3]
      · unfold tX9_down
        simp [tm_ite, t_bd, t_pr, t_g, t_p, t_fl, Option.bind_some, Option.bind_none, tM, bi, c1, c2, c3]
  · rw [fd_none.mpr c1] at e1
    refine SIM.read (g := tX9_down F x y z) (r := 0) h ?_ (fun hk => sX9_down hk F x y z) ?_
    · unfold mX8_down
      simp [rn_bd, rn_pr, rn_fl, rn_ite, rn_rI, rn_rR, rn_wI, rn_wZ1, rn_wR, rn_aI, rn_aQ, rn_aL, rn_sI, rn_sQ, rn_mO, rn_cV, Option.bind_some, Option.bind_none, k1, k2, r1, e1]
    · unfold tX9_down
      simp only [tm_ite, t_bd, t_pr, t_g, t_p, t_fl, Option.bind_some, Option.bind_none, tM, bi, c1, if_false, if_true]
theorem bi_n {c : Prop} [Decidable c] (h : c) : ¬ bi c = 0 := by rw [bi_0]; exact fun q => q h
theorem bi_z {c : Prop} [Decidable c] (h : ¬ c) : bi c = 0 := by rw [bi_0]; exact h
theorem e_owe {T2 : Tb} (h : INX s k b ad T Q T2 σ) (F : Nat) {i j : Nat} (hi : i < cC T) (hj : j < cC T) (n : Int32) : ∃ σ', x_rn (mX8_owe F (some (ad 1 i)) (some (ad 1 j)) n) σ = some ((), σ') ∧ INX s k b ad (x_up (x_up T 6 i (T 6 i - n)) 6 j (x_up T 6 i (T 6 i - n) 6 j + n)) Q T2 σ' := by
  have u1 := h.u6 hi (T 6 i - n)
  have u2 := u1.u6 (j := j) hj (x_up T 6 i (T 6 i - n) 6 j + n)
  refine ⟨_, ?_, u2⟩
  unfold mX8_owe
  refine q_rI (h.fx.k1 _ hi) (h.fx.c4 _ hi) ?_
  refine q_wI (h.fx.k1 _ hi) ?_
  refine q_rI (u1.fx.k1 _ hj) (u1.fx.c4 _ hj) ?_
  refine q_wI (u1.fx.k1 _ hj) ?_
  exact q_e
theorem p_cart (h : INV b ad T Q σ) (F : Nat) (x y z : Int32) : SIM b (mX8_cart F (some b) x y z) (mX9_cart F (some (b + 12)) x y z) σ := by
  obtain ⟨hX, hM, hJ, -⟩ := id h
  have k1 := hX.fK.1
  have k2 := hX.fK.2.1
  have r1 := hX.fR.1
  have e1 := e_findCounter hX hJ F x
  have e2 := e_findCounter hX hJ F y
  have t1 := t_isCounter hJ F x
  have t2 := t_isCounter hJ F y
  by_cases c1 : 0 ≤ x ∧ x < T 1 0
  · obtain ⟨f1, f2⟩ := in_of hJ.C (by omega) c1
    have f3 : ix x < cC T := f2
    rw [fd_some c1] at e1
    by_cases c2 : 0 ≤ y ∧ y < T 1 0
    · obtain ⟨g1, g2⟩ := in_of hJ.C (by omega) c2
      have g3 : ix y < cC T := g2
      rw [fd_some c2] at e2
      have hc := hJ.nC
      have hx : ix x < 10 := by omega
      have hy : ix y < 10 := by omega
      have kx := hX.k1 _ f3
      have vx := hX.c3 _ f3
      by_cases c3 : x = y
      · refine SIM.read (g := tX9_cart F x y z) (r := 0) h ?_ (fun hk => sX9_cart hk F x y z) ?_
        · unfold mX8_cart
          refine q_rR k1 r1 ?_
          refine q_cl k2 e1 ?_
          refine q_rR k1 r1 ?_
          refine q_cl k2 e2 ?_
          refine q_f n_some ?_
          refine q_f n_some ?_
          refine q_t (by rw [c3]) ?_
          exact q_e
        · unfold tX9_cart
          refine r_st t1 ?_
          refine r_f (bi_n c1) ?_
          refine r_st t2 ?_
          refine r_f (bi_n c2) ?_
          refine r_t c3 ?_
          rfl
      · have c4 : ¬ ix x = ix y := fun q => c3 (by rw [f1, g1, q])
        have c5 : ¬ some (ad 1 (ix x)) = some (ad 1 (ix y)) := fun q => c4 ((hX.j1 _ _ f3 g3).mp (Option.some.inj q))
        by_cases c6 : 1 ≤ z ∧ z ≤ T 2 (ix x)
        · have u1 := h.x.u2 f3 (T 2 (ix x) - z)
          have u2 := u1.u2 (j := ix y) g3 (x_up T 2 (ix x) (T 2 (ix x) - z) 2 (ix y) + z)
          obtain ⟨σ', e3, u3⟩ := e_owe u2 F (i := ix y) (j := ix x) g3 f3 z
          refine SIM.write (g := tX9_cart F x y z) (r := 1) u3 ?_ (fun hk => sX9_cart hk F x y z) ?_
          · unfold mX8_cart
            refine q_rR k1 r1 ?_
            refine q_cl k2 e1 ?_
            refine q_rR k1 r1 ?_
            refine q_cl k2 e2 ?_
            refine q_f n_some ?_
            refine q_f n_some ?_
            refine q_f c5 ?_
            refine q_rI kx vx ?_
            refine q_st (e_within _ _ _ _ _) ?_
            refine q_f (bi_n c6) ?_
            refine q_rI kx vx ?_
            refine q_wI kx ?_
            refine q_rI (u1.fx.k1 _ g3) (u1.fx.c3 _ g3) ?_
            refine q_wI (u1.fx.k1 _ g3) ?_
            refine q_st e3 ?_
            exact q_e
          · unfold tX9_cart
            refine r_st t1 ?_
            refine r_f (bi_n c1) ?_
            refine r_st t2 ?_
            refine r_f (bi_n c2) ?_
            refine r_f c3 ?_
            refine r_a f1 hx rfl ?_
            refine r_st (t_in _ _ _ _ _) ?_
            refine r_f (bi_n c6) ?_
            refine r_a f1 hx rfl ?_
            refine r_s f1 hx ?_
            refine r_a g1 hy rfl ?_
            refine r_s g1 hy ?_
            refine r_a f1 hx rfl ?_
            refine r_s f1 hx ?_
            refine r_a g1 hy rfl ?_
            refine r_s g1 hy ?_
            refine congrArg (fun w => some ((1 : Int32), w)) ?_
            generalize x_up (x_up T 2 (ix x) (T 2 (ix x) - z)) 2 (ix y) (x_up T 2 (ix x) (T 2 (ix x) - z) 2 (ix y) + z) = U
            rw [x_up_n U 6 (ix x) _ (fun q => c4 q.2.symm), x_up_n U 6 (ix y) _ (fun q => c4 q.2)]
            exact x_up_comm _ _ _ (fun q => c4 q.2)
        · refine SIM.read (g := tX9_cart F x y z) (r := 0) h ?_ (fun hk => sX9_cart hk F x y z) ?_
          · unfold mX8_cart
            refine q_rR k1 r1 ?_
            refine q_cl k2 e1 ?_
            refine q_rR k1 r1 ?_
            refine q_cl k2 e2 ?_
            refine q_f n_some ?_
            refine q_f n_some ?_
            refine q_f c5 ?_
            refine q_rI kx vx ?_
            refine q_st (e_within _ _ _ _ _) ?_
            refine q_t (bi_z c6) ?_
            exact q_e
          · unfold tX9_cart
            refine r_st t1 ?_
            refine r_f (bi_n c1) ?_
            refine r_st t2 ?_
            refine r_f (bi_n c2) ?_
            refine r_f c3 ?_
            refine r_a f1 hx rfl ?_
            refine r_st (t_in _ _ _ _ _) ?_
            refine r_t (bi_z c6) ?_
            rfl
    · rw [fd_none.mpr c2] at e2
      refine SIM.read (g := tX9_cart F x y z) (r := 0) h ?_ (fun hk => sX9_cart hk F x y z) ?_
      · unfold mX8_cart
        refine q_rR k1 r1 ?_
        refine q_cl k2 e1 ?_
        refine q_rR k1 r1 ?_
        refine q_cl k2 e2 ?_
        refine q_f n_some ?_
        refine q_t rfl ?_
        exact q_e
      · unfold tX9_cart
        refine r_st t1 ?_
        refine r_f (bi_n c1) ?_
        refine r_st t2 ?_
        refine r_t (bi_z c2) ?_
        rfl
  · rw [fd_none.mpr c1] at e1
    refine SIM.read (g := tX9_cart F x y z) (r := 0) h ?_ (fun hk => sX9_cart hk F x y z) ?_
    · unfold mX8_cart
      refine q_rR k1 r1 ?_
      refine q_cl k2 e1 ?_
      refine q_rR k1 r1 ?_
      refine q_cl k2 e2 ?_
      refine q_t rfl ?_
      exact q_e
    · unfold tX9_cart
      refine r_st t1 ?_
      refine r_t (bi_z c1) ?_
      rfl
end PC
