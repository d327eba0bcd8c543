section PT
variable {b : Nat} {ad : Ad} {T : Tb} {Q : Qs} {σ : PH} {s : Nat}
theorem RX.num (h : RX b ad T Q σ) {v : Int32} (hv : isN v (cC T)) : x_K σ (ad 1 (ix v)) = 2 ∧ x_I σ 100 (ad 1 (ix v)) = v := ⟨h.k1 _ hv.2, (h.c0 _ hv.2).trans hv.1.symm⟩
theorem RX.numO (h : RX b ad T Q σ) {v : Int32} (hv : isN v (cO T)) : x_K σ (ad 4 (ix v)) = 5 ∧ x_I σ 400 (ad 4 (ix v)) = v := ⟨h.k4 _ hv.2, (h.o0 _ hv.2).trans hv.1.symm⟩
theorem p_told (h : INV b ad T Q σ) (F : Nat) (x y : Int32) : SIM b (mX8_told F (some b) x y) (mX9_told F (some (b + 12)) x y) σ := by
  obtain ⟨hX, hM, hJ, -⟩ := id h
  have k1 := hX.fK.1
  have e1 := e_findOrder hX hJ F x
  have t1 := t_isOrder hJ F x
  by_cases c1 : 0 ≤ x ∧ x < T 17 0
  · obtain ⟨f1, f2⟩ := in_of hJ.O (by omega) c1
    have f3 : ix x < cO T := f2
    have ho := hJ.nO
    rw [fd_some c1] at e1
    obtain ⟨o1, o2, -⟩ := hJ.or _ f3
    have k4 := hX.k4 _ f3
    obtain ⟨l1, l2⟩ := hX.o1 _ f3
    obtain ⟨n1, n2⟩ := hX.num o1
    obtain ⟨n3, n4⟩ := hX.num o2
    have a3 := hX.o3 _ f3
    have a5 := hX.o5 _ f3
    have a6 := hX.o6 _ f3
    have a7 := hX.o7 _ f3
    have a8 := hX.o8 _ f3
    have a9 := hX.o9 _ f3
    have a11 := hX.o11 _ f3
    have a12 := hX.o12 _ f3
    have tt : ∀ k, x_ln k = 200 → t_a k x T = some (T k (ix x), T) := fun k hk => by
      have := ta (k := k) (i := ix x) T (by rw [hk]; omega)
      rw [← f1] at this
      exact this
    by_cases q0 : y = 0
    · subst q0
      refine SIM.read (g := tX9_told F x 0) (r := T 18 (ix x)) h ?_ (fun hk => sX9_told hk F x 0) ?_
      · unfold mX8_told
        simp [rn_bd, rn_pr, rn_fl, rn_ite, rn_rI, rn_rR, rn_wI, rn_wZ1, rn_wR, rn_aI, rn_aQ, rn_aL, rn_sI, rn_sQ, rn_mO, rn_cV, Option.bind_some, Option.bind_none, k1, e1, k4, l1, l2, n1, n2, n3, n4, a3, a5, a6, a7, a8, a9, a11, a12, e_oneIf]
        all_goals (split <;> rfl)
      · unfold tX9_told
        simp [tm_ite, t_bd, t_pr, t_g, t_p, t_fl, Option.bind_some, Option.bind_none, t1, bi, c1, tt 18 rfl, tt 19 rfl, tt 20 rfl, tt 22 rfl, tt 23 rfl, tt 24 rfl, tt 25 rfl, tt 26 rfl, tt 28 rfl, tt 29 rfl]
        all_goals (split <;> rfl)
    by_cases q1 : y = 1
    · subst q1
      refine SIM.read (g := tX9_told F x 1) (r := T 19 (ix x)) h ?_ (fun hk => sX9_told hk F x 1) ?_
      · unfold mX8_told
        simp [rn_bd, rn_pr, rn_fl, rn_ite, rn_rI, rn_rR, rn_wI, rn_wZ1, rn_wR, rn_aI, rn_aQ, rn_aL, rn_sI, rn_sQ, rn_mO, rn_cV, Option.bind_some, Option.bind_none, k1, e1, k4, l1, l2, n1, n2, n3, n4, a3, a5, a6, a7, a8, a9, a11, a12, e_oneIf]
        all_goals (split <;> rfl)
      · unfold tX9_told
        simp [tm_ite, t_bd, t_pr, t_g, t_p, t_fl, Option.bind_some, Option.bind_none, t1, bi, c1, tt 18 rfl, tt 19 rfl, tt 20 rfl, tt 22 rfl, tt 23 rfl, tt 24 rfl, tt 25 rfl, tt 26 rfl, tt 28 rfl, tt 29 rfl]
        all_goals (split <;> rfl)
    by_cases q2 : y = 2
    · subst q2
      refine SIM.read (g := tX9_told F x 2) (r := T 20 (ix x)) h ?_ (fun hk => sX9_told hk F x 2) ?_
      · unfold mX8_told
        simp [rn_bd, rn_pr, rn_fl, rn_ite, rn_rI, rn_rR, rn_wI, rn_wZ1, rn_wR, rn_aI, rn_aQ, rn_aL, rn_sI, rn_sQ, rn_mO, rn_cV, Option.bind_some, Option.bind_none, k1, e1, k4, l1, l2, n1, n2, n3, n4, a3, a5, a6, a7, a8, a9, a11, a12, e_oneIf]
        all_goals (split <;> rfl)
      · unfold tX9_told
        simp [tm_ite, t_bd, t_pr, t_g, t_p, t_fl, Option.bind_some, Option.bind_none, t1, bi, c1, tt 18 rfl, tt 19 rfl, tt 20 rfl, tt 22 rfl, tt 23 rfl, tt 24 rfl, tt 25 rfl, tt 26 rfl, tt 28 rfl, tt 29 rfl]
        all_goals (split <;> rfl)
    by_cases q3 : y = 3
    · subst q3
      refine SIM.read (g := tX9_told F x 3) (r := T 22 (ix x)) h ?_ (fun hk => sX9_told hk F x 3) ?_
      · unfold mX8_told
        simp [rn_bd, rn_pr, rn_fl, rn_ite, rn_rI, rn_rR, rn_wI, rn_wZ1, rn_wR, rn_aI, rn_aQ, rn_aL, rn_sI, rn_sQ, rn_mO, rn_cV, Option.bind_some, Option.bind_none, k1, e1, k4, l1, l2, n1, n2, n3, n4, a3, a5, a6, a7, a8, a9, a11, a12, e_oneIf]
        all_goals (split <;> rfl)
      · unfold tX9_told
        simp [tm_ite, t_bd, t_pr, t_g, t_p, t_fl, Option.bind_some, Option.bind_none, t1, bi, c1, tt 18 rfl, tt 19 rfl, tt 20 rfl, tt 22 rfl, tt 23 rfl, tt 24 rfl, tt 25 rfl, tt 26 rfl, tt 28 rfl, tt 29 rfl]
        all_goals (split <;> rfl)
    by_cases q4 : y = 4
    · subst q4
      refine SIM.read (g := tX9_told F x 4) (r := (if T 23 (ix x) = 0 then 0 else 1)) h ?_ (fun hk => sX9_told hk F x 4) ?_
      · unfold mX8_told
        simp [rn_bd, rn_pr, rn_fl, rn_ite, rn_rI, rn_rR, rn_wI, rn_wZ1, rn_wR, rn_aI, rn_aQ, rn_aL, rn_sI, rn_sQ, rn_mO, rn_cV, Option.bind_some, Option.bind_none, k1, e1, k4, l1, l2, n1, n2, n3, n4, a3, a5, a6, a7, a8, a9, a11, a12, e_oneIf]
        all_goals (split <;> rfl)
      · unfold tX9_told
        simp [tm_ite, t_bd, t_pr, t_g, t_p, t_fl, Option.bind_some, Option.bind_none, t1, bi, c1, tt 18 rfl, tt 19 rfl, tt 20 rfl, tt 22 rfl, tt 23 rfl, tt 24 rfl, tt 25 rfl, tt 26 rfl, tt 28 rfl, tt 29 rfl]
        all_goals (split <;> rfl)
    by_cases q5 : y = 5
    · subst q5
      refine SIM.read (g := tX9_told F x 5) (r := (if T 24 (ix x) = 0 then 0 else 1)) h ?_ (fun hk => sX9_told hk F x 5) ?_
      · unfold mX8_told
        simp [rn_bd, rn_pr, rn_fl, rn_ite, rn_rI, rn_rR, rn_wI, rn_wZ1, rn_wR, rn_aI, rn_aQ, rn_aL, rn_sI, rn_sQ, rn_mO, rn_cV, Option.bind_some, Option.bind_none, k1, e1, k4, l1, l2, n1, n2, n3, n4, a3, a5, a6, a7, a8, a9, a11, a12, e_oneIf]
        all_goals (split <;> rfl)
      · unfold tX9_told
        simp [tm_ite, t_bd, t_pr, t_g, t_p, t_fl, Option.bind_some, Option.bind_none, t1, bi, c1, tt 18 rfl, tt 19 rfl, tt 20 rfl, tt 22 rfl, tt 23 rfl, tt 24 rfl, tt 25 rfl, tt 26 rfl, tt 28 rfl, tt 29 rfl]
        all_goals (split <;> rfl)
    by_cases q6 : y = 6
    · subst q6
      refine SIM.read (g := tX9_told F x 6) (r := (if T 25 (ix x) = 0 then 0 else 1)) h ?_ (fun hk => sX9_told hk F x 6) ?_
      · unfold mX8_told
        simp [rn_bd, rn_pr, rn_fl, rn_ite, rn_rI, rn_rR, rn_wI, rn_wZ1, rn_wR, rn_aI, rn_aQ, rn_aL, rn_sI, rn_sQ, rn_mO, rn_cV, Option.bind_some, Option.bind_none, k1, e1, k4, l1, l2, n1, n2, n3, n4, a3, a5, a6, a7, a8, a9, a11, a12, e_oneIf]
        all_goals (split <;> rfl)
      · unfold tX9_told
        simp [tm_ite, t_bd, t_pr, t_g, t_p, t_fl, Option.bind_some, Option.bind_none, t1, bi, c1, tt 18 rfl, tt 19 rfl, tt 20 rfl, tt 22 rfl, tt 23 rfl, tt 24 rfl, tt 25 rfl, tt 26 rfl, tt 28 rfl, tt 29 rfl]
        all_goals (split <;> rfl)
    by_cases q7 : y = 7
    · subst q7
      refine SIM.read (g := tX9_told F x 7) (r := (if T 26 (ix x) = 0 then 0 else 1)) h ?_ (fun hk => sX9_told hk F x 7) ?_
      · unfold mX8_told
        simp [rn_bd, rn_pr, rn_fl, rn_ite, rn_rI, rn_rR, rn_wI, rn_wZ1, rn_wR, rn_aI, rn_aQ, rn_aL, rn_sI, rn_sQ, rn_mO, rn_cV, Option.bind_some, Option.bind_none, k1, e1, k4, l1, l2, n1, n2, n3, n4, a3, a5, a6, a7, a8, a9, a11, a12, e_oneIf]
        all_goals (split <;> rfl)
      · unfold tX9_told
        simp [tm_ite, t_bd, t_pr, t_g, t_p, t_fl, Option.bind_some, Option.bind_none, t1, bi, c1, tt 18 rfl, tt 19 rfl, tt 20 rfl, tt 22 rfl, tt 23 rfl, tt 24 rfl, tt 25 rfl, tt 26 rfl, tt 28 rfl, tt 29 rfl]
        all_goals (split <;> rfl)
    by_cases q8 : y = 8
    · subst q8
      refine SIM.read (g := tX9_told F x 8) (r := T 28 (ix x)) h ?_ (fun hk => sX9_told hk F x 8) ?_
      · unfold mX8_told
        simp [rn_bd, rn_pr, rn_fl, rn_ite, rn_rI, rn_rR, rn_wI, rn_wZ1, rn_wR, rn_aI, rn_aQ, rn_aL, rn_sI, rn_sQ, rn_mO, rn_cV, Option.bind_some, Option.bind_none, k1, e1, k4, l1, l2, n1, n2, n3, n4, a3, a5, a6, a7, a8, a9, a11, a12, e_oneIf]
        all_goals (split <;> rfl)
      · unfold tX9_told
        simp [tm_ite, t_bd, t_pr, t_g, t_p, t_fl, Option.bind_some, Option.bind_none, t1, bi, c1, tt 18 rfl, tt 19 rfl, tt 20 rfl, tt 22 rfl, tt 23 rfl, tt 24 rfl, tt 25 rfl, tt 26 rfl, tt 28 rfl, tt 29 rfl]
        all_goals (split <;> rfl)
    by_cases q9 : y = 9
    · subst q9
      refine SIM.read (g := tX9_told F x 9) (r := T 29 (ix x)) h ?_ (fun hk => sX9_told hk F x 9) ?_
      · unfold mX8_told
        simp [rn_bd, rn_pr, rn_fl, rn_ite, rn_rI, rn_rR, rn_wI, rn_wZ1, rn_wR, rn_aI, rn_aQ, rn_aL, rn_sI, rn_sQ, rn_mO, rn_cV, Option.bind_some, Option.bind_none, k1, e1, k4, l1, l2, n1, n2, n3, n4, a3, a5, a6, a7, a8, a9, a11, a12, e_oneIf]
        all_goals (split <;> rfl)
      · unfold tX9_told
        simp [tm_ite, t_bd, t_pr, t_g, t_p, t_fl, Option.bind_some, Option.bind_none, t1, bi, c1, tt 18 rfl, tt 19 rfl, tt 20 rfl, tt 22 rfl, tt 23 rfl, tt 24 rfl, tt 25 rfl, tt 26 rfl, tt 28 rfl, tt 29 rfl]
        all_goals (split <;> rfl)
    refine SIM.read (g := tX9_told F x y) (r := -1) h ?_ (fun hk => sX9_told hk F x y) ?_
    · unfold mX8_told
      simp only [rn_bd, rn_pr, rn_fl, rn_ite, rn_rI, rn_rR, rn_wI, rn_wZ1, rn_wR, rn_aI, rn_aQ, rn_aL, rn_sI, rn_sQ, rn_mO, rn_cV, Option.bind_some, Option.bind_none, k1, e1, k4, l1, l2, n1, n2, n3, n4, a3, a5, a6, a7, a8, a9, a11, a12, e_oneIf, q0, q1, q2, q3, q4, q5, q6, q7, q8, q9, reduceCtorEq, if_false]
    · unfold tX9_told
      simp only [tm_ite, t_bd, t_pr, t_g, t_p, t_fl, Option.bind_some, Option.bind_none, t1, bi, c1, tt 18 rfl, tt 19 rfl, tt 20 rfl, tt 22 rfl, tt 23 rfl, tt 24 rfl, tt 25 rfl, tt 26 rfl, tt 28 rfl, tt 29 rfl, q0, q1, q2, q3, q4, q5, q6, q7, q8, q9, if_false, if_true, and_self, show ¬ ((1 : Int32) = 0) by decide]
  · rw [fd_none.mpr c1] at e1
    refine SIM.read (g := tX9_told F x y) (r := -1) h ?_ (fun hk => sX9_told hk F x y) ?_
    · unfold mX8_told
      simp [rn_bd, rn_pr, rn_fl, rn_ite, rn_rI, rn_rR, rn_wI, rn_wZ1, rn_wR, rn_aI, rn_aQ, rn_aL, rn_sI, rn_sQ, rn_mO, rn_cV, Option.bind_some, Option.bind_none, k1, e1]
    · unfold tX9_told
      simp [tm_ite, t_bd, t_pr, t_g, t_p, t_fl, Option.bind_some, Option.bind_none, t1, bi, c1]
theorem p_message (h : INV b ad T Q σ) (F : Nat) (x y : Int32) : SIM b (mX8_message F (some b) x y) (mX9_message F (some (b + 12)) x y) σ := by
  obtain ⟨hX, hM, hJ, -⟩ := id h
  have k1 := hX.fK.1
  have tM : tX9_in F x 0 (T 30 0 - 1) T = some (bi (0 ≤ x ∧ x < T 30 0), T) := by
    rw [t_in]
    simp only [le_sub1 hJ.M (by omega : 1001 ≤ 2147483648)]
  have e1 := e_findMessage hX hJ F x
  by_cases c1 : 0 ≤ x ∧ x < T 30 0
  · obtain ⟨f1, f2⟩ := in_of hJ.M (by omega) c1
    have f3 : ix x < cM T := f2
    have ho := hJ.nM
    rw [fd_some c1] at e1
    obtain ⟨o1, o2, o3, o4, -⟩ := hJ.me _ f3
    have k4 := hX.k2 _ f3
    have l1 := hX.m1 _ f3
    have l2 := hX.m2 _ f3
    have l3 := hX.m3 _ f3
    have l5 := hX.m5 _ f3
    obtain ⟨n1, n2⟩ := hX.numO o1
    obtain ⟨n3, n4⟩ := hX.num o2
    obtain ⟨n5, n6⟩ := hX.num o3
    obtain ⟨n7, n8⟩ := hX.num o4
    have a0 := hX.m0 _ f3
    have a8 := hX.m8 _ f3
    have a9 := hX.m9 _ f3
    have tt : ∀ k, x_ln k = 1000 → t_a k x T = some (T k (ix x), T) := fun k hk => by
      have := ta (k := k) (i := ix x) T (by rw [hk]; omega)
      rw [← f1] at this
      exact this
    by_cases cS : T 35 (ix x) = 1
    · rw [if_pos cS] at l5
      by_cases q0 : y = 0
      · subst q0
        refine SIM.read (g := tX9_message F x 0) (r := T 31 (ix x)) h ?_ (fun hk => sX9_message hk F x 0) ?_
        · unfold mX8_message
          simp [rn_bd, rn_pr, rn_fl, rn_ite, rn_rI, rn_rR, rn_wI, rn_wZ1, rn_wR, rn_aI, rn_aQ, rn_aL, rn_sI, rn_sQ, rn_mO, rn_cV, Option.bind_some, Option.bind_none, k1, e1, k4, l1, l2, l3, l5, n1, n2, n3, n4, n5, n6, a0, a8, a9, e_oneIf]
          all_goals (split <;> rfl)
        · unfold tX9_message
          simp [tm_ite, t_bd, t_pr, t_g, t_p, t_fl, Option.bind_some, Option.bind_none, tM, bi, c1, tt 31 rfl, tt 32 rfl, tt 33 rfl, tt 34 rfl, tt 35 rfl, tt 36 rfl, tt 40 rfl, tt 41 rfl, cS]
          all_goals (split <;> rfl)
      by_cases q1 : y = 1
      · subst q1
        refine SIM.read (g := tX9_message F x 1) (r := T 32 (ix x)) h ?_ (fun hk => sX9_message hk F x 1) ?_
        · unfold mX8_message
          simp [rn_bd, rn_pr, rn_fl, rn_ite, rn_rI, rn_rR, rn_wI, rn_wZ1, rn_wR, rn_aI, rn_aQ, rn_aL, rn_sI, rn_sQ, rn_mO, rn_cV, Option.bind_some, Option.bind_none, k1, e1, k4, l1, l2, l3, l5, n1, n2, n3, n4, n5, n6, a0, a8, a9, e_oneIf]
          all_goals (split <;> rfl)
        · unfold tX9_message
          simp [tm_ite, t_bd, t_pr, t_g, t_p, t_fl, Option.bind_some, Option.bind_none, tM, bi, c1, tt 31 rfl, tt 32 rfl, tt 33 rfl, tt 34 rfl, tt 35 rfl, tt 36 rfl, tt 40 rfl, tt 41 rfl, cS]
          all_goals (split <;> rfl)
      by_cases q2 : y = 2
      · subst q2
        refine SIM.read (g := tX9_message F x 2) (r := T 33 (ix x)) h ?_ (fun hk => sX9_message hk F x 2) ?_
        · unfold mX8_message
          simp [rn_bd, rn_pr, rn_fl, rn_ite, rn_rI, rn_rR, rn_wI, rn_wZ1, rn_wR, rn_aI, rn_aQ, rn_aL, rn_sI, rn_sQ, rn_mO, rn_cV, Option.bind_some, Option.bind_none, k1, e1, k4, l1, l2, l3, l5, n1, n2, n3, n4, n5, n6, a0, a8, a9, e_oneIf]
          all_goals (split <;> rfl)
        · unfold tX9_message
          simp [tm_ite, t_bd, t_pr, t_g, t_p, t_fl, Option.bind_some, Option.bind_none, tM, bi, c1, tt 31 rfl, tt 32 rfl, tt 33 rfl, tt 34 rfl, tt 35 rfl, tt 36 rfl, tt 40 rfl, tt 41 rfl, cS]
          all_goals (split <;> rfl)
      by_cases q3 : y = 3
      · subst q3
        refine SIM.read (g := tX9_message F x 3) (r := T 34 (ix x)) h ?_ (fun hk => sX9_message hk F x 3) ?_
        · unfold mX8_message
          simp [rn_bd, rn_pr, rn_fl, rn_ite, rn_rI, rn_rR, rn_wI, rn_wZ1, rn_wR, rn_aI, rn_aQ, rn_aL, rn_sI, rn_sQ, rn_mO, rn_cV, Option.bind_some, Option.bind_none, k1, e1, k4, l1, l2, l3, l5, n1, n2, n3, n4, n5, n6, a0, a8, a9, e_oneIf]
          all_goals (split <;> rfl)
        · unfold tX9_message
          simp [tm_ite, t_bd, t_pr, t_g, t_p, t_fl, Option.bind_some, Option.bind_none, tM, bi, c1, tt 31 rfl, tt 32 rfl, tt 33 rfl, tt 34 rfl, tt 35 rfl, tt 36 rfl, tt 40 rfl, tt 41 rfl, cS]
          all_goals (split <;> rfl)
      by_cases q4 : y = 4
      · subst q4
        refine SIM.read (g := tX9_message F x 4) (r := -1) h ?_ (fun hk => sX9_message hk F x 4) ?_
        · unfold mX8_message
          simp [rn_bd, rn_pr, rn_fl, rn_ite, rn_rI, rn_rR, rn_wI, rn_wZ1, rn_wR, rn_aI, rn_aQ, rn_aL, rn_sI, rn_sQ, rn_mO, rn_cV, Option.bind_some, Option.bind_none, k1, e1, k4, l1, l2, l3, l5, n1, n2, n3, n4, n5, n6, a0, a8, a9, e_oneIf]
          all_goals (split <;> rfl)
        · unfold tX9_message
          simp [tm_ite, t_bd, t_pr, t_g, t_p, t_fl, Option.bind_some, Option.bind_none, tM, bi, c1, tt 31 rfl, tt 32 rfl, tt 33 rfl, tt 34 rfl, tt 35 rfl, tt 36 rfl, tt 40 rfl, tt 41 rfl, cS]
          all_goals (split <;> rfl)
      by_cases q5 : y = 5
      · subst q5
        refine SIM.read (g := tX9_message F x 5) (r := T 40 (ix x)) h ?_ (fun hk => sX9_message hk F x 5) ?_
        · unfold mX8_message
          simp [rn_bd, rn_pr, rn_fl, rn_ite, rn_rI, rn_rR, rn_wI, rn_wZ1, rn_wR, rn_aI, rn_aQ, rn_aL, rn_sI, rn_sQ, rn_mO, rn_cV, Option.bind_some, Option.bind_none, k1, e1, k4, l1, l2, l3, l5, n1, n2, n3, n4, n5, n6, a0, a8, a9, e_oneIf]
          all_goals (split <;> rfl)
        · unfold tX9_message
          simp [tm_ite, t_bd, t_pr, t_g, t_p, t_fl, Option.bind_some, Option.bind_none, tM, bi, c1, tt 31 rfl, tt 32 rfl, tt 33 rfl, tt 34 rfl, tt 35 rfl, tt 36 rfl, tt 40 rfl, tt 41 rfl, cS]
          all_goals (split <;> rfl)
      by_cases q6 : y = 6
      · subst q6
        refine SIM.read (g := tX9_message F x 6) (r := (if T 41 (ix x) = 0 then 0 else 1)) h ?_ (fun hk => sX9_message hk F x 6) ?_
        · unfold mX8_message
          simp [rn_bd, rn_pr, rn_fl, rn_ite, rn_rI, rn_rR, rn_wI, rn_wZ1, rn_wR, rn_aI, rn_aQ, rn_aL, rn_sI, rn_sQ, rn_mO, rn_cV, Option.bind_some, Option.bind_none, k1, e1, k4, l1, l2, l3, l5, n1, n2, n3, n4, n5, n6, a0, a8, a9, e_oneIf]
          all_goals (split <;> rfl)
        · unfold tX9_message
          simp [tm_ite, t_bd, t_pr, t_g, t_p, t_fl, Option.bind_some, Option.bind_none, tM, bi, c1, tt 31 rfl, tt 32 rfl, tt 33 rfl, tt 34 rfl, tt 35 rfl, tt 36 rfl, tt 40 rfl, tt 41 rfl, cS]
          all_goals (split <;> rfl)
      refine SIM.read (g := tX9_message F x y) (r := -1) h ?_ (fun hk => sX9_message hk F x y) ?_
      · unfold mX8_message
        simp only [rn_bd, rn_pr, rn_fl, rn_ite, rn_rI, rn_rR, rn_wI, rn_wZ1, rn_wR, rn_aI, rn_aQ, rn_aL, rn_sI, rn_sQ, rn_mO, rn_cV, Option.bind_some, Option.bind_none, k1, e1, k4, l1, l2, l3, l5, n1, n2, n3, n4, n5, n6, a0, a8, a9, e_oneIf, q0, q1, q2, q3, q4, q5, q6, reduceCtorEq, if_false]
      · unfold tX9_message
        simp only [tm_ite, t_bd, t_pr, t_g, t_p, t_fl, Option.bind_some, Option.bind_none, tM, bi, c1, tt 31 rfl, tt 32 rfl, tt 33 rfl, tt 34 rfl, tt 35 rfl, tt 36 rfl, tt 40 rfl, tt 41 rfl, cS, q0, q1, q2, q3, q4, q5, q6, if_false, if_true, and_self, show ¬ ((1 : Int32) = 0) by decide]
    · rw [if_neg cS] at l5
      by_cases q0 : y = 0
      · subst q0
        refine SIM.read (g := tX9_message F x 0) (r := T 31 (ix x)) h ?_ (fun hk => sX9_message hk F x 0) ?_
        · unfold mX8_message
          simp [rn_bd, rn_pr, rn_fl, rn_ite, rn_rI, rn_rR, rn_wI, rn_wZ1, rn_wR, rn_aI, rn_aQ, rn_aL, rn_sI, rn_sQ, rn_mO, rn_cV, Option.bind_some, Option.bind_none, k1, e1, k4, l1, l2, l3, l5, n1, n2, n3, n4, n5, n6, n7, n8, a0, a8, a9, e_oneIf]
          all_goals (split <;> rfl)
        · unfold tX9_message
          simp [tm_ite, t_bd, t_pr, t_g, t_p, t_fl, Option.bind_some, Option.bind_none, tM, bi, c1, tt 31 rfl, tt 32 rfl, tt 33 rfl, tt 34 rfl, tt 35 rfl, tt 36 rfl, tt 40 rfl, tt 41 rfl, cS]
          all_goals (split <;> rfl)
      by_cases q1 : y = 1
      · subst q1
        refine SIM.read (g := tX9_message F x 1) (r := T 32 (ix x)) h ?_ (fun hk => sX9_message hk F x 1) ?_
        · unfold mX8_message
          simp [rn_bd, rn_pr, rn_fl, rn_ite, rn_rI, rn_rR, rn_wI, rn_wZ1, rn_wR, rn_aI, rn_aQ, rn_aL, rn_sI, rn_sQ, rn_mO, rn_cV, Option.bind_some, Option.bind_none, k1, e1, k4, l1, l2, l3, l5, n1, n2, n3, n4, n5, n6, n7, n8, a0, a8, a9, e_oneIf]
          all_goals (split <;> rfl)
        · unfold tX9_message
          simp [tm_ite, t_bd, t_pr, t_g, t_p, t_fl, Option.bind_some, Option.bind_none, tM, bi, c1, tt 31 rfl, tt 32 rfl, tt 33 rfl, tt 34 rfl, tt 35 rfl, tt 36 rfl, tt 40 rfl, tt 41 rfl, cS]
          all_goals (split <;> rfl)
      by_cases q2 : y = 2
      · subst q2
        refine SIM.read (g := tX9_message F x 2) (r := T 33 (ix x)) h ?_ (fun hk => sX9_message hk F x 2) ?_
        · unfold mX8_message
          simp [rn_bd, rn_pr, rn_fl, rn_ite, rn_rI, rn_rR, rn_wI, rn_wZ1, rn_wR, rn_aI, rn_aQ, rn_aL, rn_sI, rn_sQ, rn_mO, rn_cV, Option.bind_some, Option.bind_none, k1, e1, k4, l1, l2, l3, l5, n1, n2, n3, n4, n5, n6, n7, n8, a0, a8, a9, e_oneIf]
          all_goals (split <;> rfl)
        · unfold tX9_message
          simp [tm_ite, t_bd, t_pr, t_g, t_p, t_fl, Option.bind_some, Option.bind_none, tM, bi, c1, tt 31 rfl, tt 32 rfl, tt 33 rfl, tt 34 rfl, tt 35 rfl, tt 36 rfl, tt 40 rfl, tt 41 rfl, cS]
          all_goals (split <;> rfl)
      by_cases q3 : y = 3
      · subst q3
        refine SIM.read (g := tX9_message F x 3) (r := T 34 (ix x)) h ?_ (fun hk => sX9_message hk F x 3) ?_
        · unfold mX8_message
          simp [rn_bd, rn_pr, rn_fl, rn_ite, rn_rI, rn_rR, rn_wI, rn_wZ1, rn_wR, rn_aI, rn_aQ, rn_aL, rn_sI, rn_sQ, rn_mO, rn_cV, Option.bind_some, Option.bind_none, k1, e1, k4, l1, l2, l3, l5, n1, n2, n3, n4, n5, n6, n7, n8, a0, a8, a9, e_oneIf]
          all_goals (split <;> rfl)
        · unfold tX9_message
          simp [tm_ite, t_bd, t_pr, t_g, t_p, t_fl, Option.bind_some, Option.bind_none, tM, bi, c1, tt 31 rfl, tt 32 rfl, tt 33 rfl, tt 34 rfl, tt 35 rfl, tt 36 rfl, tt 40 rfl, tt 41 rfl, cS]
          all_goals (split <;> rfl)
      by_cases q4 : y = 4
      · subst q4
        refine SIM.read (g := tX9_message F x 4) (r := T 36 (ix x)) h ?_ (fun hk => sX9_message hk F x 4) ?_
        · unfold mX8_message
          simp [rn_bd, rn_pr, rn_fl, rn_ite, rn_rI, rn_rR, rn_wI, rn_wZ1, rn_wR, rn_aI, rn_aQ, rn_aL, rn_sI, rn_sQ, rn_mO, rn_cV, Option.bind_some, Option.bind_none, k1, e1, k4, l1, l2, l3, l5, n1, n2, n3, n4, n5, n6, n7, n8, a0, a8, a9, e_oneIf]
          all_goals (split <;> rfl)
        · unfold tX9_message
          simp [tm_ite, t_bd, t_pr, t_g, t_p, t_fl, Option.bind_some, Option.bind_none, tM, bi, c1, tt 31 rfl, tt 32 rfl, tt 33 rfl, tt 34 rfl, tt 35 rfl, tt 36 rfl, tt 40 rfl, tt 41 rfl, cS]
          all_goals (split <;> rfl)
      by_cases q5 : y = 5
      · subst q5
        refine SIM.read (g := tX9_message F x 5) (r := T 40 (ix x)) h ?_ (fun hk => sX9_message hk F x 5) ?_
        · unfold mX8_message
          simp [rn_bd, rn_pr, rn_fl, rn_ite, rn_rI, rn_rR, rn_wI, rn_wZ1, rn_wR, rn_aI, rn_aQ, rn_aL, rn_sI, rn_sQ, rn_mO, rn_cV, Option.bind_some, Option.bind_none, k1, e1, k4, l1, l2, l3, l5, n1, n2, n3, n4, n5, n6, n7, n8, a0, a8, a9, e_oneIf]
          all_goals (split <;> rfl)
        · unfold tX9_message
          simp [tm_ite, t_bd, t_pr, t_g, t_p, t_fl, Option.bind_some, Option.bind_none, tM, bi, c1, tt 31 rfl, tt 32 rfl, tt 33 rfl, tt 34 rfl, tt 35 rfl, tt 36 rfl, tt 40 rfl, tt 41 rfl, cS]
          all_goals (split <;> rfl)
      by_cases q6 : y = 6
      · subst q6
        refine SIM.read (g := tX9_message F x 6) (r := (if T 41 (ix x) = 0 then 0 else 1)) h ?_ (fun hk => sX9_message hk F x 6) ?_
        · unfold mX8_message
          simp [rn_bd, rn_pr, rn_fl, rn_ite, rn_rI, rn_rR, rn_wI, rn_wZ1, rn_wR, rn_aI, rn_aQ, rn_aL, rn_sI, rn_sQ, rn_mO, rn_cV, Option.bind_some, Option.bind_none, k1, e1, k4, l1, l2, l3, l5, n1, n2, n3, n4, n5, n6, n7, n8, a0, a8, a9, e_oneIf]
          all_goals (split <;> rfl)
        · unfold tX9_message
          simp [tm_ite, t_bd, t_pr, t_g, t_p, t_fl, Option.bind_some, Option.bind_none, tM, bi, c1, tt 31 rfl, tt 32 rfl, tt 33 rfl, tt 34 rfl, tt 35 rfl, tt 36 rfl, tt 40 rfl, tt 41 rfl, cS]
          all_goals (split <;> rfl)
      refine SIM.read (g := tX9_message F x y) (r := -1) h ?_ (fun hk => sX9_message hk F x y) ?_
      · unfold mX8_message
        simp only [rn_bd, rn_pr, rn_fl, rn_ite, rn_rI, rn_rR, rn_wI, rn_wZ1, rn_wR, rn_aI, rn_aQ, rn_aL, rn_sI, rn_sQ, rn_mO, rn_cV, Option.bind_some, Option.bind_none, k1, e1, k4, l1, l2, l3, l5, n1, n2, n3, n4, n5, n6, n7, n8, a0, a8, a9, e_oneIf, q0, q1, q2, q3, q4, q5, q6, reduceCtorEq, if_false]
      · unfold tX9_message
        simp only [tm_ite, t_bd, t_pr, t_g, t_p, t_fl, Option.bind_some, Option.bind_none, tM, bi, c1, tt 31 rfl, tt 32 rfl, tt 33 rfl, tt 34 rfl, tt 35 rfl, tt 36 rfl, tt 40 rfl, tt 41 rfl, cS, q0, q1, q2, q3, q4, q5, q6, if_false, if_true, and_self, show ¬ ((1 : Int32) = 0) by decide]
  · rw [fd_none.mpr c1] at e1
    refine SIM.read (g := tX9_message F x y) (r := -1) h ?_ (fun hk => sX9_message hk F x y) ?_
    · unfold mX8_message
      simp [rn_bd, rn_pr, rn_fl, rn_ite, rn_rI, rn_rR, rn_wI, rn_wZ1, rn_wR, rn_aI, rn_aQ, rn_aL, rn_sI, rn_sQ, rn_mO, rn_cV, Option.bind_some, Option.bind_none, k1, e1]
    · unfold tX9_message
      simp only [tm_ite, t_bd, t_pr, t_g, t_p, t_fl, Option.bind_some, Option.bind_none, t_in, le_sub1 hJ.M (by omega : 1001 ≤ 2147483648), bi, c1, if_false, if_true]
theorem t_isPayment (hJ : JT s T) (F : Nat) (x : Int32) : tX9_isPayment F x T = some (bi ((0 ≤ x ∧ x < T 30 0) ∧ T 31 (ix x) = 0), T) := by
  unfold tX9_isPayment
  by_cases c1 : 0 ≤ x ∧ x < T 30 0
  · obtain ⟨f1, f2⟩ := in_of hJ.M (by omega) c1
    have f3 : ix x < cM T := f2
    have ho := hJ.nM
    have tt := ta (k := 31) (i := ix x) T (show ix x < 1000 by omega)
    rw [← f1] at tt
    simp only [tm_ite, t_bd, t_pr, t_g, t_p, t_fl, Option.bind_some, Option.bind_none, t_in, le_sub1 hJ.M (by omega : 1001 ≤ 2147483648), bi, c1, and_self, if_true, tt, show ¬ ((1 : Int32) = 0) by decide, if_false, true_and]
    split <;> rfl
  · simp only [tm_ite, t_bd, t_pr, t_g, t_p, t_fl, Option.bind_some, Option.bind_none, t_in, le_sub1 hJ.M (by omega : 1001 ≤ 2147483648), bi, c1, if_false, if_true, false_and]
theorem nI13 (i k : Nat) : (13 : Int32) * nI i + nI k = nI (13 * i + k) := by
  rw [show (13 : Int32) = nI 13 from rfl, pk_mul, nI_add]
theorem e_digitOf (h : RX b ad T Q σ) (F : Nat) {m : Nat} (hm : m < cM T) (hp : T 31 m = 0) (y : Int32) : x_rn (mX6_digitOf F (some (ad 6 m)) y) σ = some (if 0 ≤ y ∧ y < nI 13 then T 45 (13 * m + ix y) else -1, σ) := by
  have k6 := h.k6 m hm hp
  obtain ⟨kd, kl, -⟩ := h.kd m hm hp
  have s1 := h.s1 m hm hp
  unfold mX6_digitOf
  by_cases c0 : y < 0
  · have : ¬ 0 ≤ y := i_nle.mpr c0
    simp [rn_bd, rn_pr, rn_fl, rn_ite, rn_rI, rn_rR, rn_wI, rn_wZ1, rn_wR, rn_aI, rn_aQ, rn_aL, rn_sI, rn_sQ, rn_mO, rn_cV, Option.bind_some, Option.bind_none, c0, this]
  · have c0' : 0 ≤ y := i_nlt.mp c0
    by_cases c1 : nI 13 ≤ y
    · have : ¬ y < nI 13 := i_nlt.mpr c1
      simp [rn_bd, rn_pr, rn_fl, rn_ite, rn_rI, rn_rR, rn_wI, rn_wZ1, rn_wR, rn_aI, rn_aQ, rn_aL, rn_sI, rn_sQ, rn_mO, rn_cV, Option.bind_some, Option.bind_none, c0, c1, this, k6, s1, kd, kl]
    · have c1' : y < nI 13 := i_nle.mp c1
      obtain ⟨f1, f2⟩ := i_in c0' c1' (by omega)
      have e : x_rn (x_aI 0 (some (ad 10 m)) y) σ = some (T 45 (13 * m + ix y), σ) := by
        rw [f1, rn_aI (by omega) (by omega) (by omega), h.sd m hm hp _ f2, ← f1]
      simp [rn_bd, rn_pr, rn_fl, rn_ite, rn_rI, rn_rR, rn_wI, rn_wZ1, rn_wR, rn_aI, rn_aQ, rn_aL, rn_sI, rn_sQ, rn_mO, rn_cV, Option.bind_some, Option.bind_none, c0, c1, c0', c1', k6, s1, kd, kl, e]
theorem p_sign (h : INV b ad T Q σ) (F : Nat) (x y : Int32) : SIM b (mX8_sign F (some b) x y) (mX9_sign F (some (b + 12)) x y) σ := by
  obtain ⟨hX, hM, hJ, -⟩ := id h
  have k1 := hX.fK.1
  have e1 := e_findMessage hX hJ F x
  have t1 := t_isPayment hJ F x
  by_cases c1 : 0 ≤ x ∧ x < T 30 0
  · obtain ⟨f1, f2⟩ := in_of hJ.M (by omega) c1
    have f3 : ix x < cM T := f2
    have ho := hJ.nM
    rw [fd_some c1] at e1
    have k2 := hX.k2 _ f3
    have m4 := hX.m4 _ f3
    by_cases cp : T 31 (ix x) = 0
    · rw [if_pos cp] at m4
      have k6 := hX.k6 _ f3 cp
      have s0 := hX.s0 _ f3 cp
      have eD := e_digitOf hX F f3 cp y
      have t3 := ta (k := 43) (i := ix x) T (show ix x < 1000 by omega)
      rw [← f1] at t3
      by_cases c13 : y = 13
      · subst c13
        refine SIM.read (g := tX9_sign F x 13) (r := T 43 (ix x)) h ?_ (fun hk => sX9_sign hk F x 13) ?_
        · unfold mX8_sign
          simp [rn_bd, rn_pr, rn_fl, rn_ite, rn_rI, rn_rR, rn_wI, rn_wZ1, rn_wR, rn_aI, rn_aQ, rn_aL, rn_sI, rn_sQ, rn_mO, rn_cV, Option.bind_some, Option.bind_none, k1, e1, k2, m4, k6, s0]
        · unfold tX9_sign
          simp [tm_ite, t_bd, t_pr, t_g, t_p, t_fl, Option.bind_some, Option.bind_none, t1, bi, c1, cp, t_in, t3]
      · by_cases cy : 0 ≤ y ∧ y < nI 13
        · obtain ⟨g1, g2⟩ := i_in cy.1 cy.2 (by omega)
          have t4 := ta (k := 45) (i := 13 * ix x + ix y) T (show 13 * ix x + ix y < 13000 by omega)
          rw [← nI13, ← f1, ← g1] at t4
          have cy2 : 0 ≤ y ∧ y ≤ 13 := ⟨cy.1, by have := cy.2; rw [i_lt] at this; rw [i_le]; exact Int.le_of_lt this⟩
          refine SIM.read (g := tX9_sign F x y) (r := T 45 (13 * ix x + ix y)) h ?_ (fun hk => sX9_sign hk F x y) ?_
          · unfold mX8_sign
            simp [rn_bd, rn_pr, rn_fl, rn_ite, rn_rI, rn_rR, rn_wI, rn_wZ1, rn_wR, rn_aI, rn_aQ, rn_aL, rn_sI, rn_sQ, rn_mO, rn_cV, Option.bind_some, Option.bind_none, k1, e1, k2, m4, k6, eD, c13, cy]
          · unfold tX9_sign
            simp [tm_ite, t_bd, t_pr, t_g, t_p, t_fl, Option.bind_some, Option.bind_none, t1, bi, c1, cp, t_in, cy2, c13, t4]
        · have cy2 : ¬ (0 ≤ y ∧ y ≤ 13) := by
            rintro ⟨q1, q2⟩
            apply cy
            refine ⟨q1, ?_⟩
            rw [i_le] at q2
            rw [i_lt]
            have : y.toInt ≠ (13 : Int32).toInt := fun q => c13 (Int32.toInt_inj.mp q)
            have e : (nI 13).toInt = (13 : Int32).toInt := rfl
            rw [e]; omega
          refine SIM.read (g := tX9_sign F x y) (r := -1) h ?_ (fun hk => sX9_sign hk F x y) ?_
          · unfold mX8_sign
            simp only [rn_bd, rn_pr, rn_fl, rn_ite, rn_rI, rn_rR, rn_wI, rn_wZ1, rn_wR, rn_aI, rn_aQ, rn_aL, rn_sI, rn_sQ, rn_mO, rn_cV, Option.bind_some, Option.bind_none, k1, e1, k2, m4, k6, eD, c13, cy, if_false, reduceCtorEq]
          · unfold tX9_sign
            simp only [tm_ite, t_bd, t_pr, t_g, t_p, t_fl, Option.bind_some, Option.bind_none, t1, bi, c1, cp, t_in, cy2, if_false, if_true, and_self, show ¬ ((1 : Int32) = 0) by decide]
    · rw [if_neg cp] at m4
      refine SIM.read (g := tX9_sign F x y) (r := -1) h ?_ (fun hk => sX9_sign hk F x y) ?_
      · unfold mX8_sign
        simp [rn_bd, rn_pr, rn_fl, rn_ite, rn_rI, rn_rR, rn_wI, rn_wZ1, rn_wR, rn_aI, rn_aQ, rn_aL, rn_sI, rn_sQ, rn_mO, rn_cV, Option.bind_some, Option.bind_none, k1, e1, k2, m4]
      · unfold tX9_sign
        simp [tm_ite, t_bd, t_pr, t_g, t_p, t_fl, Option.bind_some, Option.bind_none, t1, bi, cp]
  · rw [fd_none.mpr c1] at e1
    refine SIM.read (g := tX9_sign F x y) (r := -1) h ?_ (fun hk => sX9_sign hk F x y) ?_
    · unfold mX8_sign
      simp [rn_bd, rn_pr, rn_fl, rn_ite, rn_rI, rn_rR, rn_wI, rn_wZ1, rn_wR, rn_aI, rn_aQ, rn_aL, rn_sI, rn_sQ, rn_mO, rn_cV, Option.bind_some, Option.bind_none, k1, e1]
    · unfold tX9_sign
      simp only [tm_ite, t_bd, t_pr, t_g, t_p, t_fl, Option.bind_some, Option.bind_none, t1, bi, c1, false_and, if_false, if_true]
end PT
