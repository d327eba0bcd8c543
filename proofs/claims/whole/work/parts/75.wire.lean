section PWi
variable {b : Nat} {ad : Ad} {T T2 : Tb} {Q : Qs} {σ : PH} {s k : Nat}
theorem t_reckF (hJ : JT s T) (hn : cW T < 15) {a c t : Nat} (ha : a < cC T) (hc : c < cC T) (hne : a ≠ c) (ht : 1 ≤ t ∧ t ≤ 60) {F : Nat} (hF : 40000000000 < F) : tX9_reckons F (tW T (nI a) (nI c) (nI t)) = some ((), tF T a c t) := by
  have JF := hJ.newW hn ha hc hne ht
  have NW : NT (tW T (nI a) (nI c) (nI t)) := ⟨hJ.C, JF.nt.2.1, JF.nt.2.2.1, hJ.ls⟩
  obtain ⟨E, g1, g2⟩ := t_reckons NW hF
  have LF : LW (Dm (tF T a c t)) (WR (tW T (nI a) (nI c) (nI t))) := JF.lw
  rw [g1]
  refine congrArg (fun W => some ((), W)) ?_
  unfold tE tF
  congr 1
  funext i
  unfold rD
  by_cases q : i < 100
  · rw [if_pos q, if_pos q]
    have e1 := g2.uniq LF (i := i / 10) (j := i % 10) (by omega) (by omega)
    rw [e1, tF_D hJ (by omega) (by omega)]
    unfold mD
    rw [if_pos q]
  · rw [if_neg q, if_neg q]
    rfl
theorem p_wire (h : INV b ad T Q σ) {F : Nat} (hF : 40000000000 < F) (x y z : Int32) : SIM b (mX8_wire F (some b) x y z) (mX9_wire F (some (b + 12)) x y z) σ := by
  obtain ⟨hX, hM, hJ, -⟩ := id h
  have k1 := hX.fK.1
  have k2 := hX.fK.2.1
  have r1 := hX.fR.1
  have e1 := e_findCounter hX hJ F x
  have e2 := e_findCounter hX hJ F y
  have t1 := t_isCounter hJ F x
  have t2 := t_isCounter hJ F y
  have hT : T 7 0 = nI (cW T) := hJ.W.1
  have hW := hJ.nW
  have hC := hJ.nC
  by_cases c1 : 0 ≤ x ∧ x < T 1 0
  case neg =>
    rw [fd_none.mpr c1] at e1
    refine SIM.read (g := tX9_wire F x y z) (r := -1) h ?_ (fun hk => sX9_wire hk F x y z) ?_
    · unfold mX8_wire
      refine q_rR k1 r1 ?_
      refine q_cl k2 e1 ?_
      refine q_rR k1 r1 ?_
      refine q_cl k2 e2 ?_
      refine q_t rfl ?_
      exact q_e
    · unfold tX9_wire
      refine r_st t1 ?_
      refine r_t (bi_z c1) ?_
      rfl
  obtain ⟨f1, f2⟩ := in_of hJ.C (by omega) c1
  have f3 : ix x < cC T := f2
  rw [fd_some c1] at e1
  by_cases c2 : 0 ≤ y ∧ y < T 1 0
  case neg =>
    rw [fd_none.mpr c2] at e2
    refine SIM.read (g := tX9_wire F x y z) (r := -1) h ?_ (fun hk => sX9_wire hk F x y z) ?_
    · unfold mX8_wire
      refine q_rR k1 r1 ?_
      refine q_cl k2 e1 ?_
      refine q_rR k1 r1 ?_
      refine q_cl k2 e2 ?_
      refine q_f n_some ?_
      refine q_t rfl ?_
      exact q_e
    · unfold tX9_wire
      refine r_st t1 ?_
      refine r_f (bi_n c1) ?_
      refine r_st t2 ?_
      refine r_t (bi_z c2) ?_
      rfl
  obtain ⟨g1, g2⟩ := in_of hJ.C (by omega) c2
  have g3 : ix y < cC T := g2
  rw [fd_some c2] at e2
  by_cases c3 : x = y
  case pos =>
    refine SIM.read (g := tX9_wire F x y z) (r := -1) h ?_ (fun hk => sX9_wire hk F x y z) ?_
    · unfold mX8_wire
      refine q_rR k1 r1 ?_
      refine q_cl k2 e1 ?_
      refine q_rR k1 r1 ?_
      refine q_cl k2 e2 ?_
      refine q_f n_some ?_
      refine q_f n_some ?_
      refine q_t (by rw [c3]) ?_
      exact q_e
    · unfold tX9_wire
      refine r_st t1 ?_
      refine r_f (bi_n c1) ?_
      refine r_st t2 ?_
      refine r_f (bi_n c2) ?_
      refine r_t c3 ?_
      rfl
  have c4 : ¬ ix x = ix y := fun q => c3 (by rw [f1, g1, q])
  have c5 : ¬ some (ad 1 (ix x)) = some (ad 1 (ix y)) := fun q => c4 ((hX.j1 _ _ f3 g3).mp (Option.some.inj q))
  by_cases d1 : 1 ≤ z ∧ z ≤ 60
  case neg =>
    refine SIM.read (g := tX9_wire F x y z) (r := -1) h ?_ (fun hk => sX9_wire hk F x y z) ?_
    · unfold mX8_wire
      refine q_rR k1 r1 ?_
      refine q_cl k2 e1 ?_
      refine q_rR k1 r1 ?_
      refine q_cl k2 e2 ?_
      refine q_f n_some ?_
      refine q_f n_some ?_
      refine q_f c5 ?_
      refine q_st (e_within _ _ _ _ _) ?_
      refine q_t (bi_z d1) ?_
      exact q_e
    · unfold tX9_wire
      refine r_st t1 ?_
      refine r_f (bi_n c1) ?_
      refine r_st t2 ?_
      refine r_f (bi_n c2) ?_
      refine r_f c3 ?_
      refine r_st (t_in _ _ _ _ _) ?_
      refine r_t (bi_z d1) ?_
      rfl
  obtain ⟨t, ht1, ht2, ez⟩ : ∃ t, 1 ≤ t ∧ t ≤ 60 ∧ z = nI t := by
    have q1 := d1.1
    rw [i_le] at q1
    have q1' : (1 : Int) ≤ z.toInt := q1
    obtain ⟨j, hj, e⟩ := nI_of2 (x := z) (M := 60) (n := 60) rfl (fun q => by
      rw [i_lt] at q
      have : z.toInt < (0 : Int) := q
      omega) d1.2
    refine ⟨j, ?_, hj, e⟩
    rw [e, i_nI (by omega)] at q1'
    omega
  by_cases d2 : cW T < 15
  case neg =>
    have ea : x_rn (mX3_addWire F (some (b + 1)) (some (ad 1 (ix x))) (some (ad 1 (ix y))) z) σ = some (-1, σ) := by
      unfold mX3_addWire
      refine q_rI k2 (hX.z301.trans hT) ?_
      refine q_rR k2 hX.fR.2.2.2.2.2.1 ?_
      refine q_aL hX.fK.2.2.2.1 hX.fL.2.1 ?_
      refine q_f (nI_nlt (by omega) (by omega)) ?_
      exact q_e
    refine SIM.read (g := tX9_wire F x y z) (r := -1) h ?_ (fun hk => sX9_wire hk F x y z) ?_
    · unfold mX8_wire
      refine q_rR k1 r1 ?_
      refine q_cl k2 e1 ?_
      refine q_rR k1 r1 ?_
      refine q_cl k2 e2 ?_
      refine q_f n_some ?_
      refine q_f n_some ?_
      refine q_f c5 ?_
      refine q_st (e_within _ _ _ _ _) ?_
      refine q_f (bi_n d1) ?_
      refine q_rR k1 r1 ?_
      refine q_cl k2 ea ?_
      exact q_e
    · unfold tX9_wire
      refine r_st t1 ?_
      refine r_f (bi_n c1) ?_
      refine r_st t2 ?_
      refine r_f (bi_n c2) ?_
      refine r_f c3 ?_
      refine r_st (t_in _ _ _ _ _) ?_
      refine r_f (bi_n d1) ?_
      refine r_g hT ?_
      refine r_t (by rw [show cW T = 15 by omega]; rfl) ?_
      rfl
  obtain ⟨σ', ad', ea, u⟩ := e_addWire h.x d2 (F := F) (by omega) f3 g3 c4 ⟨ht1, ht2⟩
  have tr := t_reckF hJ d2 f3 g3 c4 ⟨ht1, ht2⟩ hF
  rw [← ez] at ea tr
  rw [← f1, ← g1] at tr
  have n15 : ¬ nI (cW T) = (15 : Int32) := fun q => by
    have := congrArg ix q
    rw [ix_nI (by omega)] at this
    have e : ix (15 : Int32) = 15 := rfl
    omega
  refine SIM.write (g := tX9_wire F x y z) (r := nI (cW T)) u ?_ (fun hk => sX9_wire hk F x y z) ?_
  · unfold mX8_wire
    refine q_rR k1 r1 ?_
    refine q_cl k2 e1 ?_
    refine q_rR k1 r1 ?_
    refine q_cl k2 e2 ?_
    refine q_f n_some ?_
    refine q_f n_some ?_
    refine q_f c5 ?_
    refine q_st (e_within _ _ _ _ _) ?_
    refine q_f (bi_n d1) ?_
    refine q_rR k1 r1 ?_
    refine q_cl k2 ea ?_
    exact q_e
  · unfold tX9_wire
    refine r_st t1 ?_
    refine r_f (bi_n c1) ?_
    refine r_st t2 ?_
    refine r_f (bi_n c2) ?_
    refine r_f c3 ?_
    refine r_st (t_in _ _ _ _ _) ?_
    refine r_f (bi_n d1) ?_
    refine r_g hT ?_
    refine r_f n15 ?_
    refine r_g hT ?_
    refine r_s rfl d2 ?_
    refine r_g hT ?_
    refine r_s rfl d2 ?_
    refine r_g hT ?_
    refine r_s rfl d2 ?_
    refine r_g hT ?_
    refine r_p ?_
    rw [nI_1]
    refine r_st tr ?_
    refine r_g (v := nI (cW T + 1)) rfl ?_
    rw [nI_pred]
    rfl
end PWi
