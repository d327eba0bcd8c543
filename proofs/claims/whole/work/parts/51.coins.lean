theorem x_upA {α : Type} (f : Nat → Nat → α) (i j : Nat) (v : α) (x y : Nat) : x_up f i j v x y = if x = i ∧ y = j then v else f x y := rfl
section PC
variable {b : Nat} {ad : Ad} {T : Tb} {Q : Qs} {σ : PH} {s : Nat}
theorem INX.fx {T2 : Tb} (h : INX s b ad T Q T2 σ) : RX b ad T Q σ := h.1
theorem INX.j {T2 : Tb} (h : INX s b ad T Q T2 σ) : JT s T := h.2.2.1
theorem p_down (h : INV b ad T Q σ) (F : Nat) (x y z : Int32) : SIM b (mX8_down F (some b) x y z) (mX9_down F (some (b + 12)) x y z) σ := by
  obtain ⟨hX, hM, hJ, -⟩ := id h
  have k1 := hX.fK.1
  have k2 := hX.fK.2.1
  have r1 := hX.fR.1
  have z6 := hX.z806
  have e1 := e_findWire hX hJ F x
  have tM : tX9_in F x 0 (T 7 0 - 1) T = some (bi (0 ≤ x ∧ x < T 7 0), T) := by
    rw [t_in]
    simp only [le_sub1 hJ.W (by omega : 16 ≤ 2147483648)]
  by_cases c1 : 0 ≤ x ∧ x < T 7 0
  · obtain ⟨f1, f2⟩ := in_of hJ.W (by omega) c1
    have f3 : ix x < cW T := f2
    have hw := hJ.nW
    rw [fd_some c1] at e1
    have k7 := hX.k7 _ f3
    by_cases c2 : y < T 0 0
    · refine SIM.read (g := tX9_down F x y z) (r := 0) h ?_ (fun hk => sX9_down hk F x y z) ?_
      · unfold mX8_down
        simp [rn_bd, rn_pr, rn_fl, rn_ite, rn_rI, rn_rR, rn_wI, rn_wZ1, rn_wR, rn_aI, rn_aQ, rn_aL, rn_sI, rn_sQ, rn_mO, rn_cV, Option.bind_some, Option.bind_none, k1, k2, r1, z6, e1, c2]
      · unfold tX9_down
        simp [tm_ite, t_bd, t_pr, t_g, t_p, t_fl, Option.bind_some, Option.bind_none, tM, bi, c1, c2]
    by_cases c3 : y < z
    · have hz : 0 ≤ z := by
        have q0 := hJ.nw
        have q1 := i_nlt.mp c2
        rw [i_le, q0.ti (by omega)] at q1
        rw [i_lt] at c3
        rw [i_le]
        show (0 : Int) ≤ _
        omega
      have t1 := ts (k := 11) (i := ix x) y T (show ix x < 15 by omega)
      have t2 := ts (k := 12) (i := ix x) z (x_up T 11 (ix x) y) (show ix x < 15 by omega)
      rw [← f1] at t1 t2
      have u1 := (h.x.u11 f3 y).u12 (j := ix x) f3 z hz
      refine SIM.write (g := tX9_down F x y z) (r := 1) u1 ?_ (fun hk => sX9_down hk F x y z) ?_
      · unfold mX8_down
        simp [rn_bd, rn_pr, rn_fl, rn_ite, rn_rI, rn_rR, rn_wI, rn_wZ1, rn_wR, rn_aI, rn_aQ, rn_aL, rn_sI, rn_sQ, rn_mO, rn_cV, Option.bind_some, Option.bind_none, k1, k2, r1, z6, e1, c2, c3, k7, K_uI]
      · unfold tX9_down
        simp [tm_ite, t_bd, t_pr, t_g, t_p, t_fl, Option.bind_some, Option.bind_none, tM, bi, c1, c2, c3, t1, t2]
    · refine SIM.read (g := tX9_down F x y z) (r := 0) h ?_ (fun hk => sX9_down hk F x y z) ?_
      · unfold mX8_down
        simp [rn_bd, rn_pr, rn_fl, rn_ite, rn_rI, rn_rR, rn_wI, rn_wZ1, rn_wR, rn_aI, rn_aQ, rn_aL, rn_sI, rn_sQ, rn_mO, rn_cV, Option.bind_some, Option.bind_none, k1, k2, r1, z6, e1, c2, c3]
      · unfold tX9_down
        simp [tm_ite, t_bd, t_pr, t_g, t_p, t_fl, Option.bind_some, Option.bind_none, tM, bi, c1, c2, c3]
  · rw [fd_none.mpr c1] at e1
    refine SIM.read (g := tX9_down F x y z) (r := 0) h ?_ (fun hk => sX9_down hk F x y z) ?_
    · unfold mX8_down
      simp [rn_bd, rn_pr, rn_fl, rn_ite, rn_rI, rn_rR, rn_wI, rn_wZ1, rn_wR, rn_aI, rn_aQ, rn_aL, rn_sI, rn_sQ, rn_mO, rn_cV, Option.bind_some, Option.bind_none, k1, k2, r1, e1]
    · unfold tX9_down
      simp only [tm_ite, t_bd, t_pr, t_g, t_p, t_fl, Option.bind_some, Option.bind_none, tM, bi, c1, if_false, if_true]
theorem p_cart (h : INV b ad T Q σ) (F : Nat) (x y z : Int32) : SIM b (mX8_cart F (some b) x y z) (mX9_cart F (some (b + 12)) x y z) σ := by
  obtain ⟨hX, hM, hJ, -⟩ := id h
  have k1 := hX.fK.1
  have k2 := hX.fK.2.1
  have r1 := hX.fR.1
  have e1 := e_findCounter hX hJ F x
  have e2 := e_findCounter hX hJ F y
  have t1 := t_isCounter hJ F x
  have t2 := t_isCounter hJ F y
  by_cases c1 : 0 ≤ x ∧ x < T 1 0
  · obtain ⟨f1, f2⟩ := in_of hJ.C (by omega) c1
    have f3 : ix x < cC T := f2
    rw [fd_some c1] at e1
    by_cases c2 : 0 ≤ y ∧ y < T 1 0
    · obtain ⟨g1, g2⟩ := in_of hJ.C (by omega) c2
      have g3 : ix y < cC T := g2
      rw [fd_some c2] at e2
      have hc := hJ.nC
      have kx := hX.k1 _ f3
      have ky := hX.k1 _ g3
      have ix3 := hX.c3 _ f3
      have iy3 := hX.c3 _ g3
      have ix4 := hX.c4 _ f3
      have iy4 := hX.c4 _ g3
      by_cases c3 : x = y
      · refine SIM.read (g := tX9_cart F x y z) (r := 0) h ?_ (fun hk => sX9_cart hk F x y z) ?_
        · unfold mX8_cart
          simp [rn_bd, rn_pr, rn_fl, rn_ite, rn_rI, rn_rR, rn_wI, rn_wZ1, rn_wR, rn_aI, rn_aQ, rn_aL, rn_sI, rn_sQ, rn_mO, rn_cV, Option.bind_some, Option.bind_none, k1, k2, r1, e1, e2, c3]
        · unfold tX9_cart
          simp [tm_ite, t_bd, t_pr, t_g, t_p, t_fl, Option.bind_some, Option.bind_none, t1, t2, bi, c1, c2, c3]
      · have c4 : ¬ ix x = ix y := fun q => c3 (by rw [f1, g1, q])
        have c5 : ¬ ad 1 (ix x) = ad 1 (ix y) := fun q => c4 ((hX.j1 _ _ f3 g3).mp q)
        have a2 : t_a 2 x T = some (T 2 (ix x), T) := by
          have := ta (k := 2) (i := ix x) T (show ix x < 10 by omega)
          rw [← f1] at this; exact this
        by_cases c6 : 1 ≤ z ∧ z ≤ T 2 (ix x)
        · have u := (((h.x.u2 f3 (T 2 (ix x) - z)).u2 (j := ix y) g3 (T 2 (ix y) + z)).u6 (j := ix y) g3 (T 6 (ix y) - z)).u6 (j := ix x) f3 (T 6 (ix x) + z)
          have te : x_up (x_up (x_up (x_up T 2 (ix x) (T 2 (ix x) - z)) 2 (ix y) (T 2 (ix y) + z)) 6 (ix x) (T 6 (ix x) + z)) 6 (ix y) (T 6 (ix y) - z) = x_up (x_up (x_up (x_up T 2 (ix x) (T 2 (ix x) - z)) 2 (ix y) (T 2 (ix y) + z)) 6 (ix y) (T 6 (ix y) - z)) 6 (ix x) (T 6 (ix x) + z) := x_up_comm _ _ _ (fun q => c4 q.2)
          refine SIM.write (g := tX9_cart F x y z) (r := 1) u ?_ (fun hk => sX9_cart hk F x y z) ?_
          · unfold mX8_cart mX8_owe
            sorry --, ky, ix3, iy3, ix4, iy4, K_uI, I_uI, Ne.symm c5]
          · unfold tX9_cart
            have b1 : ∀ (T' : Tb) (k : Nat), x_ln k = 10 → t_a k x T' = some (T' k (ix x), T') := fun T' k hk => by
              have := ta (k := k) (i := ix x) T' (by rw [hk]; omega)
              rw [← f1] at this; exact this
            have b2 : ∀ (T' : Tb) (k : Nat), x_ln k = 10 → t_a k y T' = some (T' k (ix y), T') := fun T' k hk => by
              have := ta (k := k) (i := ix y) T' (by rw [hk]; omega)
              rw [← g1] at this; exact this
            have b3 : ∀ (T' : Tb) (k : Nat) (v : Int32), x_ln k = 10 → t_s k x v T' = some ((), x_up T' k (ix x) v) := fun T' k v hk => by
              have := ts (k := k) (i := ix x) v T' (by rw [hk]; omega)
              rw [← f1] at this; exact this
            have b4 : ∀ (T' : Tb) (k : Nat) (v : Int32), x_ln k = 10 → t_s k y v T' = some ((), x_up T' k (ix y) v) := fun T' k v hk => by
              have := ts (k := k) (i := ix y) v T' (by rw [hk]; omega)
              rw [← g1] at this; exact this
            rw [← te]
            simp [tm_ite, t_bd, t_pr, t_g, t_p, t_fl, Option.bind_some, Option.bind_none, t1, t2, bi, c1, c2, c3, t_in, c6, b1 _ 2 rfl, b1 _ 6 rfl, b2 _ 2 rfl, b2 _ 6 rfl, b3 _ 2 _ rfl, b3 _ 6 _ rfl, b4 _ 2 _ rfl, b4 _ 6 _ rfl, x_upA, Ne.symm c4]
        · refine SIM.read (g := tX9_cart F x y z) (r := 0) h ?_ (fun hk => sX9_cart hk F x y z) ?_
          · unfold mX8_cart
            simp only [rn_bd, rn_pr, rn_fl, rn_ite, rn_rI, rn_rR, rn_wI, rn_wZ1, rn_wR, rn_aI, rn_aQ, rn_aL, rn_sI, rn_sQ, rn_mO, rn_cV, Option.bind_some, Option.bind_none, k1, k2, r1, e1, e2, Option.some.injEq, c5, e_within, bi, c6, kx, show 100 * 1 + 3 = 103 from rfl, ix3, if_false, if_true, reduceCtorEq]
          · unfold tX9_cart
            simp only [tm_ite, t_bd, t_pr, t_g, t_p, t_fl, Option.bind_some, Option.bind_none, t1, t2, bi, c1, c2, c3, t_in, a2, c6, if_false, if_true, and_self, show ¬ ((1 : Int32) = 0) by decide]
    · rw [fd_none.mpr c2] at e2
      refine SIM.read (g := tX9_cart F x y z) (r := 0) h ?_ (fun hk => sX9_cart hk F x y z) ?_
      · unfold mX8_cart
        simp [rn_bd, rn_pr, rn_fl, rn_ite, rn_rI, rn_rR, rn_wI, rn_wZ1, rn_wR, rn_aI, rn_aQ, rn_aL, rn_sI, rn_sQ, rn_mO, rn_cV, Option.bind_some, Option.bind_none, k1, k2, r1, e1, e2]
      · unfold tX9_cart
        simp only [tm_ite, t_bd, t_pr, t_g, t_p, t_fl, Option.bind_some, Option.bind_none, t1, t2, bi, c1, c2, if_false, if_true, and_self, show ¬ ((1 : Int32) = 0) by decide]
  · rw [fd_none.mpr c1] at e1
    refine SIM.read (g := tX9_cart F x y z) (r := 0) h ?_ (fun hk => sX9_cart hk F x y z) ?_
    · unfold mX8_cart
      simp [rn_bd, rn_pr, rn_fl, rn_ite, rn_rI, rn_rR, rn_wI, rn_wZ1, rn_wR, rn_aI, rn_aQ, rn_aL, rn_sI, rn_sQ, rn_mO, rn_cV, Option.bind_some, Option.bind_none, k1, k2, r1, e1, e2]
    · unfold tX9_cart
      simp only [tm_ite, t_bd, t_pr, t_g, t_p, t_fl, Option.bind_some, Option.bind_none, t1, bi, c1, if_false, if_true]
end PC
