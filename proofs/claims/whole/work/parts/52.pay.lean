section PD
variable {b : Nat} {ad : Ad} {T : Tb} {Q : Qs} {σ : PH} {s k : Nat}
theorem up_ext {T U : Tb} (h : ∀ k i, T k i = U k i) : T = U := funext (fun k => funext (fun i => h k i))
theorem e_payOut {T2 : Tb} (h : INX s k b ad T Q T2 σ) (F : Nat) {o : Nat} (ho : o < cO T) : ∃ σ', x_rn (mX8_payOut F (some b) (some (ad 4 o))) σ = some ((), σ') ∧ INX s k b ad (x_up (x_up (x_up (x_up (x_up (x_up T 2 (ix (T 19 o)) (T 2 (ix (T 19 o)) - T 20 o)) 6 (ix (T 19 o)) (T 6 (ix (T 19 o)) + T 20 o)) 6 (ix (T 18 o)) (T 6 (ix (T 18 o)) - T 20 o)) 24 o 1) 28 o (T 0 0)) 48 0 (T 48 0 + 1)) Q T2 σ' := by
  have hX := h.fx
  obtain ⟨j1, j2, j3, -⟩ := h.j.or o ho
  have f3 : ix (T 18 o) < cC T := j1.2
  have g3 : ix (T 19 o) < cC T := j2.2
  have k1 := hX.fK.1
  have ko := hX.k4 _ ho
  have o1 := hX.o1 _ ho
  have u1 := h.u24 ho 1
  have u2 := u1.u28 (j := o) ho (T 0 0)
  have u3 := u2.u2 (j := ix (T 19 o)) g3 (T 2 (ix (T 19 o)) - T 20 o)
  obtain ⟨σ', e3, u4⟩ := e_owe u3 F (i := ix (T 18 o)) (j := ix (T 19 o)) f3 g3 (T 20 o)
  have u5 := u4.u48 (T 48 0 + 1)
  refine ⟨_, ?_, cast (congrArg (fun W => INX s k b ad W Q T2 _) ?_) u5⟩
  · unfold mX8_payOut
    refine q_wZ ko ?_
    refine q_rI k1 hX.z806 ?_
    refine q_wI ko ?_
    refine q_rR ko o1.2 ?_
    refine q_rI (hX.k1 _ g3) (hX.c3 _ g3) ?_
    refine q_rI ko (hX.o3 _ ho) ?_
    refine q_wI (hX.k1 _ g3) ?_
    refine q_rR ko o1.1 ?_
    refine q_rR ko o1.2 ?_
    refine q_rI ko (hX.o3 _ ho) ?_
    refine q_st e3 ?_
    refine q_rI u4.fx.fK.1 u4.fx.z809 ?_
    refine q_wI u4.fx.fK.1 ?_
    exact q_e
  · refine up_ext (fun x y => ?_)
    simp only [x_upA]
    by_cases h2 : x = 2
    · subst h2; simp
    by_cases h6 : x = 6
    · subst h6
      by_cases ha : y = ix (T 18 o)
      · subst ha; simp [j3]
      · by_cases hb : y = ix (T 19 o)
        · subst hb; simp [j3, Ne.symm j3]
        · simp [ha, hb]
    by_cases h24 : x = 24
    · subst h24; simp
    by_cases h28 : x = 28
    · subst h28; simp
    by_cases h48 : x = 48
    · subst h48; simp
    simp [h2, h6, h24, h28, h48]
theorem p_pay (h : INV b ad T Q σ) (F : Nat) (x y : Int32) : SIM b (mX8_pay F (some b) x y) (mX9_pay F (some (b + 12)) x y) σ := by
  obtain ⟨hX, hM, hJ, -⟩ := id h
  have k1 := hX.fK.1
  have e1 := e_findOrder hX hJ F x
  have t1 := t_isOrder hJ F x
  by_cases c1 : 0 ≤ x ∧ x < T 17 0
  · obtain ⟨f1, f2⟩ := in_of hJ.O (by omega) c1
    have f3 : ix x < cO T := f2
    rw [fd_some c1] at e1
    have hO := hJ.nO
    have hC := hJ.nC
    have hx : ix x < 200 := by omega
    obtain ⟨j1, j2, j3, -⟩ := hJ.or _ f3
    have g1 := j1.2
    have g2 := j2.2
    have hf : ix (T 18 (ix x)) < 10 := by omega
    have ht : ix (T 19 (ix x)) < 10 := by omega
    have ko := hX.k4 _ f3
    have o1 := hX.o1 _ f3
    have eo := e_isOpen hX F g2 (T 0 0)
    have to := t_isOpen hJ F g2
    rw [← j2.1] at to
    by_cases c2 : T 23 (ix x) = 0
    · refine SIM.read (g := tX9_pay F x y) (r := 1) h ?_ (fun hk => sX9_pay hk F x y) ?_
      · unfold mX8_pay
        refine q_cl k1 e1 ?_
        refine q_f n_some ?_
        refine q_rI ko (hX.o6 _ f3) ?_
        refine q_t c2 ?_
        exact q_e
      · unfold tX9_pay
        refine r_st t1 ?_
        refine r_f (bi_n c1) ?_
        refine r_a f1 hx rfl ?_
        refine r_t c2 ?_
        rfl
    by_cases c3 : T 24 (ix x) = 0
    case neg =>
      refine SIM.read (g := tX9_pay F x y) (r := 2) h ?_ (fun hk => sX9_pay hk F x y) ?_
      · unfold mX8_pay
        refine q_cl k1 e1 ?_
        refine q_f n_some ?_
        refine q_rI ko (hX.o6 _ f3) ?_
        refine q_f c2 ?_
        refine q_rI ko (hX.o7 _ f3) ?_
        refine q_f c3 ?_
        exact q_e
      · unfold tX9_pay
        refine r_st t1 ?_
        refine r_f (bi_n c1) ?_
        refine r_a f1 hx rfl ?_
        refine r_f c2 ?_
        refine r_a f1 hx rfl ?_
        refine r_f c3 ?_
        rfl
    by_cases c4 : T 25 (ix x) = 0
    case neg =>
      refine SIM.read (g := tX9_pay F x y) (r := 3) h ?_ (fun hk => sX9_pay hk F x y) ?_
      · unfold mX8_pay
        refine q_cl k1 e1 ?_
        refine q_f n_some ?_
        refine q_rI ko (hX.o6 _ f3) ?_
        refine q_f c2 ?_
        refine q_rI ko (hX.o7 _ f3) ?_
        refine q_t c3 ?_
        refine q_rI ko (hX.o8 _ f3) ?_
        refine q_f c4 ?_
        exact q_e
      · unfold tX9_pay
        refine r_st t1 ?_
        refine r_f (bi_n c1) ?_
        refine r_a f1 hx rfl ?_
        refine r_f c2 ?_
        refine r_a f1 hx rfl ?_
        refine r_t c3 ?_
        refine r_a f1 hx rfl ?_
        refine r_f c4 ?_
        rfl
    by_cases c5 : T 3 (ix (T 19 (ix x))) ≤ x_rem (T 0 0) 1440 ∧ x_rem (T 0 0) 1440 < T 4 (ix (T 19 (ix x)))
    case neg =>
      refine SIM.read (g := tX9_pay F x y) (r := 4) h ?_ (fun hk => sX9_pay hk F x y) ?_
      · unfold mX8_pay
        refine q_cl k1 e1 ?_
        refine q_f n_some ?_
        refine q_rI ko (hX.o6 _ f3) ?_
        refine q_f c2 ?_
        refine q_rI ko (hX.o7 _ f3) ?_
        refine q_t c3 ?_
        refine q_rI ko (hX.o8 _ f3) ?_
        refine q_t c4 ?_
        refine q_rR ko o1.2 ?_
        refine q_rI k1 hX.z806 ?_
        refine q_cl (hX.k1 _ g2) eo ?_
        refine q_t (bi_z c5) ?_
        exact q_e
      · unfold tX9_pay
        refine r_st t1 ?_
        refine r_f (bi_n c1) ?_
        refine r_a f1 hx rfl ?_
        refine r_f c2 ?_
        refine r_a f1 hx rfl ?_
        refine r_t c3 ?_
        refine r_a f1 hx rfl ?_
        refine r_t c4 ?_
        refine r_a f1 hx rfl ?_
        refine r_st to ?_
        refine r_t (bi_z c5) ?_
        rfl
    by_cases c6 : T 21 (ix x) = y
    case neg =>
      refine SIM.read (g := tX9_pay F x y) (r := 5) h ?_ (fun hk => sX9_pay hk F x y) ?_
      · unfold mX8_pay
        refine q_cl k1 e1 ?_
        refine q_f n_some ?_
        refine q_rI ko (hX.o6 _ f3) ?_
        refine q_f c2 ?_
        refine q_rI ko (hX.o7 _ f3) ?_
        refine q_t c3 ?_
        refine q_rI ko (hX.o8 _ f3) ?_
        refine q_t c4 ?_
        refine q_rR ko o1.2 ?_
        refine q_rI k1 hX.z806 ?_
        refine q_cl (hX.k1 _ g2) eo ?_
        refine q_f (bi_n c5) ?_
        refine q_rI ko (hX.o4 _ f3) ?_
        refine q_f c6 ?_
        exact q_e
      · unfold tX9_pay
        refine r_st t1 ?_
        refine r_f (bi_n c1) ?_
        refine r_a f1 hx rfl ?_
        refine r_f c2 ?_
        refine r_a f1 hx rfl ?_
        refine r_t c3 ?_
        refine r_a f1 hx rfl ?_
        refine r_t c4 ?_
        refine r_a f1 hx rfl ?_
        refine r_st to ?_
        refine r_f (bi_n c5) ?_
        refine r_a f1 hx rfl ?_
        refine r_f c6 ?_
        rfl
    by_cases c7 : T 20 (ix x) ≤ T 2 (ix (T 19 (ix x)))
    case neg =>
      refine SIM.read (g := tX9_pay F x y) (r := 6) h ?_ (fun hk => sX9_pay hk F x y) ?_
      · unfold mX8_pay
        refine q_cl k1 e1 ?_
        refine q_f n_some ?_
        refine q_rI ko (hX.o6 _ f3) ?_
        refine q_f c2 ?_
        refine q_rI ko (hX.o7 _ f3) ?_
        refine q_t c3 ?_
        refine q_rI ko (hX.o8 _ f3) ?_
        refine q_t c4 ?_
        refine q_rR ko o1.2 ?_
        refine q_rI k1 hX.z806 ?_
        refine q_cl (hX.k1 _ g2) eo ?_
        refine q_f (bi_n c5) ?_
        refine q_rI ko (hX.o4 _ f3) ?_
        refine q_t c6 ?_
        refine q_rR ko o1.2 ?_
        refine q_rI (hX.k1 _ g2) (hX.c3 _ g2) ?_
        refine q_rI ko (hX.o3 _ f3) ?_
        refine q_f c7 ?_
        exact q_e
      · unfold tX9_pay
        refine r_st t1 ?_
        refine r_f (bi_n c1) ?_
        refine r_a f1 hx rfl ?_
        refine r_f c2 ?_
        refine r_a f1 hx rfl ?_
        refine r_t c3 ?_
        refine r_a f1 hx rfl ?_
        refine r_t c4 ?_
        refine r_a f1 hx rfl ?_
        refine r_st to ?_
        refine r_f (bi_n c5) ?_
        refine r_a f1 hx rfl ?_
        refine r_t c6 ?_
        refine r_a f1 hx rfl ?_
        refine r_a j2.1 ht rfl ?_
        refine r_a f1 hx rfl ?_
        refine r_f c7 ?_
        rfl
    obtain ⟨σ', e3, u3⟩ := e_payOut h.x F f3
    refine SIM.write (g := tX9_pay F x y) (r := 0) u3 ?_ (fun hk => sX9_pay hk F x y) ?_
    · unfold mX8_pay
      refine q_cl k1 e1 ?_
      refine q_f n_some ?_
      refine q_rI ko (hX.o6 _ f3) ?_
      refine q_f c2 ?_
      refine q_rI ko (hX.o7 _ f3) ?_
      refine q_t c3 ?_
      refine q_rI ko (hX.o8 _ f3) ?_
      refine q_t c4 ?_
      refine q_rR ko o1.2 ?_
      refine q_rI k1 hX.z806 ?_
      refine q_cl (hX.k1 _ g2) eo ?_
      refine q_f (bi_n c5) ?_
      refine q_rI ko (hX.o4 _ f3) ?_
      refine q_t c6 ?_
      refine q_rR ko o1.2 ?_
      refine q_rI (hX.k1 _ g2) (hX.c3 _ g2) ?_
      refine q_rI ko (hX.o3 _ f3) ?_
      refine q_t c7 ?_
      refine q_cl k1 e3 ?_
      exact q_e
    · unfold tX9_pay
      refine r_st t1 ?_
      refine r_f (bi_n c1) ?_
      refine r_a f1 hx rfl ?_
      refine r_f c2 ?_
      refine r_a f1 hx rfl ?_
      refine r_t c3 ?_
      refine r_a f1 hx rfl ?_
      refine r_t c4 ?_
      refine r_a f1 hx rfl ?_
      refine r_st to ?_
      refine r_f (bi_n c5) ?_
      refine r_a f1 hx rfl ?_
      refine r_t c6 ?_
      refine r_a f1 hx rfl ?_
      refine r_a j2.1 ht rfl ?_
      refine r_a f1 hx rfl ?_
      refine r_t c7 ?_
      refine r_a f1 hx rfl ?_
      refine r_a j2.1 ht rfl ?_
      refine r_a f1 hx rfl ?_
      refine r_s j2.1 ht ?_
      refine r_a f1 hx rfl ?_
      refine r_a j2.1 ht rfl ?_
      refine r_a f1 hx rfl ?_
      refine r_s j2.1 ht ?_
      refine r_a f1 hx rfl ?_
      refine r_a j1.1 hf (x_up_n _ _ _ _ (fun q => j3 q.2)) ?_
      refine r_a f1 hx rfl ?_
      refine r_s j1.1 hf ?_
      refine r_z f1 hx ?_
      refine r_g rfl ?_
      refine r_s f1 hx ?_
      refine r_g rfl ?_
      refine r_p ?_
      rfl
  · rw [fd_none.mpr c1] at e1
    refine SIM.read (g := tX9_pay F x y) (r := 1) h ?_ (fun hk => sX9_pay hk F x y) ?_
    · unfold mX8_pay
      refine q_cl k1 e1 ?_
      refine q_t rfl ?_
      exact q_e
    · unfold tX9_pay
      refine r_st t1 ?_
      refine r_t (bi_z c1) ?_
      rfl
end PD
