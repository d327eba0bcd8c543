section PR
variable {b : Nat} {ad : Ad} {T : Tb} {Q : Qs} {σ : PH}
theorem nI10 (i k : Nat) : (10 : Int32) * nI i + nI k = nI (10 * i + k) := by
  rw [show (10 : Int32) = nI 10 from rfl, pk_mul, nI_add]
theorem p_least (h : INV b ad T Q σ) (F : Nat) (x y : Int32) : SIM b (mX8_least F (some b) x y) (mX9_least F (some (b + 12)) x y) σ := by
  obtain ⟨hX, hM, hJ, -⟩ := id h
  have k1 := hX.fK.1
  have k2 := hX.fK.2.1
  have r1 := hX.fR.1
  have e1 := e_findCounter hX hJ F x
  have e2 := e_findCounter hX hJ F y
  have t1 := t_isCounter hJ F x
  have t2 := t_isCounter hJ F y
  by_cases c1 : 0 ≤ x ∧ x < T 1 0
  · obtain ⟨f1, f2⟩ := in_of hJ.C (by omega) c1
    rw [fd_some c1] at e1
    by_cases c2 : 0 ≤ y ∧ y < T 1 0
    · obtain ⟨g1, g2⟩ := in_of hJ.C (by omega) c2
      rw [fd_some c2] at e2
      have hw := e_hasWay hX hJ F (i := ix x) (k := ix y) f2 g2
      have hm := e_minutes hX hJ F (i := ix x) (k := ix y) f2 g2
      have hc := hJ.nC
      have f2' : ix x < cC T := f2
      have g2' : ix y < cC T := g2
      have tt := ta (k := 13) (i := 10 * ix x + ix y) T (show 10 * ix x + ix y < 100 by omega)
      rw [← nI10, ← f1, ← g1] at tt
      have e7 := hJ.ls (10 * ix x + ix y) (by omega)
      have lt : (T 13 (10 * ix x + ix y) < (1000000 : Int32)) ↔ Dm T (ix x) (ix y) < 1000000 := by
        rw [i_lt, e7.ti (by omega)]
        show _ < (1000000 : Int) ↔ _
        unfold Dm
        omega
      refine SIM.read (g := tX9_least F x y) (r := if Dm T (ix x) (ix y) < 1000000 then T 13 (10 * ix x + ix y) else -1) h ?_ (fun hk => sX9_least hk F x y) ?_
      · unfold mX8_least
        by_cases c3 : Dm T (ix x) (ix y) < 1000000 <;> simp [rn_bd, rn_pr, rn_fl, rn_ite, rn_rI, rn_rR, rn_wI, rn_wZ1, rn_wR, rn_aI, rn_aQ, rn_aL, rn_sI, rn_sQ, rn_mO, rn_cV, Option.bind_some, Option.bind_none, k1, k2, r1, e1, e2, hw, hm, bi, c3]
      · unfold tX9_least
        by_cases c3 : Dm T (ix x) (ix y) < 1000000 <;> simp [tm_ite, t_bd, t_pr, t_g, t_p, t_fl, Option.bind_some, Option.bind_none, t1, t2, bi, c1, c2, tt, lt, c3]
    · rw [fd_none.mpr c2] at e2
      refine SIM.read (g := tX9_least F x y) (r := -1) h ?_ (fun hk => sX9_least hk F x y) ?_
      · unfold mX8_least
        simp [rn_bd, rn_pr, rn_fl, rn_ite, rn_rI, rn_rR, rn_wI, rn_wZ1, rn_wR, rn_aI, rn_aQ, rn_aL, rn_sI, rn_sQ, rn_mO, rn_cV, Option.bind_some, Option.bind_none, k1, k2, r1, e1, e2]
      · unfold tX9_least
        simp [tm_ite, t_bd, t_pr, t_g, t_p, t_fl, Option.bind_some, Option.bind_none, t1, t2, bi, c1, c2]
  · rw [fd_none.mpr c1] at e1
    refine SIM.read (g := tX9_least F x y) (r := -1) h ?_ (fun hk => sX9_least hk F x y) ?_
    · unfold mX8_least
      simp [rn_bd, rn_pr, rn_fl, rn_ite, rn_rI, rn_rR, rn_wI, rn_wZ1, rn_wR, rn_aI, rn_aQ, rn_aL, rn_sI, rn_sQ, rn_mO, rn_cV, Option.bind_some, Option.bind_none, k1, k2, r1, e1, e2]
    · unfold tX9_least
      simp [tm_ite, t_bd, t_pr, t_g, t_p, t_fl, Option.bind_some, Option.bind_none, t1, bi, c1]
end PR
