section PRd
variable {b : Nat} {ad : Ad} {T T2 : Tb} {Q : Qs} {σ : PH} {s k : Nat}
/-- what a step of the minute leaves as it was -/
def OT (T : Tb) (m : Nat) (T' : Tb) : Prop := T' 0 = T 0 ∧ cM T ≤ cM T' ∧ T' 35 m ≠ 1 ∧ (∀ l, l ≠ m → l < cM T → T' 35 l = T 35 l) ∧ (∀ l, cM T ≤ l → l < cM T' → T' 35 l ≠ 1)
theorem e_fitTest (h : RX b ad T Q σ) {F : Nat} (hF : 1000 < F) {m : Nat} (hm : m < cM T) (hk : T 31 m = 0) : x_rn (mX6_fitTest F (some (ad 6 m))) σ = some (bi (x_rem (tsm (fun j => T 45 (13 * m + j)) (T 44 m) 13) (97 : Int32) = T 43 m), σ) := by
  have k6 := h.k6 _ hm hk
  obtain ⟨kd, ld, -⟩ := h.kd _ hm hk
  have et := e_testOf kd ld (g := fun j => T 45 (13 * m + j)) (fun j hj => h.sd _ hm hk j hj) (F := F) (by omega) (T 44 m)
  unfold mX6_fitTest
  refine q_rR k6 (h.s1 _ hm hk) ?_
  refine q_rI k6 (h.s2 _ hm hk) ?_
  refine q_st et ?_
  refine q_rI k6 (h.s0 _ hm hk) ?_
  by_cases c : x_rem (tsm (fun j => T 45 (13 * m + j)) (T 44 m) 13) (97 : Int32) = T 43 m
  · rw [show bi (x_rem (tsm (fun j => T 45 (13 * m + j)) (T 44 m) 13) (97 : Int32) = T 43 m) = 1 from if_pos c]
    exact q_t c q_e
  · rw [bi_z c]
    exact q_f c q_e
theorem tr_OT {m : Nat} {U : Tb} (hm : m < cM T) (h0 : U 0 = T 0) (h30 : U 30 = T 30) (h35 : U 35 = x_up T 35 m 2 35) : OT T m U := by
  have e : cM U = cM T := by unfold cM; rw [h30]
  refine ⟨h0, by rw [e]; exact Nat.le_refl _, ?_, fun l hl _ => ?_, fun l h1 h2 => by omega⟩
  · rw [h35, x_up_s]; decide
  · rw [h35]; exact x_up_n _ _ _ _ (fun q => hl q.2)
theorem wr_OT {m : Nat} {U V : Tb} (hm : m < cM T) (h0 : U 0 = T 0) (h30 : U 30 = T 30) (h35 : U 35 = x_up T 35 m 2 35) (g0 : V 0 = U 0) (g1 : ∀ l, l < cM U → V 35 l = U 35 l) (g2 : cM U ≤ cM V) (g3 : ∀ l, cM U ≤ l → l < cM V → V 35 l ≠ 1) : OT T m V := by
  have e : cM U = cM T := by unfold cM; rw [h30]
  rw [e] at g1 g2 g3
  refine ⟨g0.trans h0, g2, ?_, fun l hl hl2 => ?_, g3⟩
  · rw [g1 m hm, h35, x_up_s]; decide
  · rw [g1 l hl2, h35]; exact x_up_n _ _ _ _ (fun q => hl q.2)
theorem INX.read (h : INX s k b ad T Q T2 σ) (hs : s ≤ 1000) {F : Nat} (hF : 1000 < F) {m : Nat} (hm : m < cM T) (h1 : T 35 m = 1) (heq : T 36 m = T 34 m) : ∃ σ1 σ' ad' T' Q', x_rn (mX2_leaveWire F (some (ad 2 m))) σ = some ((), σ1) ∧ RX b ad (x_up T 35 m 2) Q σ1 ∧ x_rn (mX8_read F (some b) (some (ad 2 m))) σ1 = some ((), σ') ∧ tX9_reads F (nI m) T = some ((), T') ∧ INX s k b ad' T' Q' T2 σ' ∧ x_I σ' 807 b = x_I σ 807 b ∧ OT T m T' := by
  have hJ := h.j
  have hMn := hJ.nM
  have hO := hJ.nO
  have hC := hJ.nC
  have hm2 : m < 1000 := by omega
  obtain ⟨j32, -, -, -, -, -⟩ := hJ.me m hm
  have ho : ix (T 32 m) < cO T := j32.2
  have ho2 : ix (T 32 m) < 200 := by omega
  obtain ⟨j18, j19, -, -⟩ := hJ.or _ ho
  have c18 := j18.2
  have hf2 : ix (T 18 (ix (T 32 m))) < 10 := by omega
  obtain ⟨σ1, e1, X1, hU, i8⟩ := h.arrive F hm h1 heq
  have hX := hU.fx
  have hJU := hU.j
  have km := hX.k2 _ hm
  have k1 := hX.fK.1
  have ko := hX.k4 _ ho
  have m1 : x_R (x_uI σ1 208 (ad 2 m) (T 0 0)) 201 (ad 2 m) = some (ad 4 (ix (T 32 m))) := hX.m1 _ hm
  have m0 : x_I (x_uI σ1 208 (ad 2 m) (T 0 0)) 200 (ad 2 m) = T 31 m := hX.m0 _ hm
  have i8' : x_I (x_uI σ1 208 (ad 2 m) (T 0 0)) 807 b = x_I σ 807 b := i8
  -- both prefixes
  have cpre : ∀ (z : Option (Unit × PH)), x_rn (if T 31 m = 0 then x_bd (x_cV (some b) 8 (mX8_readPayment F (some b) (some (ad 2 m)))) fun _ => (x_pr ()) else (if T 31 m = 1 then x_bd (x_rR (some (ad 2 m)) 2 1) fun v50 => x_bd (x_cV (some b) 8 (mX8_readStop F (some b) v50)) fun _ => (x_pr ()) else (if T 31 m = 2 then x_bd (x_rR (some (ad 2 m)) 2 1) fun v61 => x_bd (x_cV (some b) 8 (mX8_payBack F (some b) v61)) fun _ => (x_pr ()) else x_bd (x_rR (some (ad 2 m)) 2 1) fun v72 => x_bd (x_cV (some b) 8 (mX8_readRepeat F (some b) v72)) fun _ => (x_pr ())))) (x_uI σ1 208 (ad 2 m) (T 0 0)) = z → x_rn (mX8_read F (some b) (some (ad 2 m))) σ1 = z := by
    intro z hz
    unfold mX8_read
    refine q_rI X1.fK.1 X1.z806 ?_
    refine q_wI (X1.k2 _ hm) ?_
    refine q_rI km m0 ?_
    exact hz
  rcases hJ.kn m hm with c | c | c | c
  · -- a payment
    have kk : tr T m 31 m = 0 := c
    have m4 := hX.m4 _ hm
    rw [if_pos kk] at m4
    have ef := e_fitTest hX hF hm kk
    have tt := t_testOf (T := tr T m) (m := m) (g := fun j => T 45 (13 * m + j)) (dy := T 44 m) hm2 rfl (fun _ _ => rfl) (F := F) (by omega)
    by_cases c2 : x_rem (tsm (fun j => T 45 (13 * m + j)) (T 44 m) 13) (97 : Int32) = T 43 m
    · by_cases c3 : T 25 (ix (T 32 m)) = 0
      · have u := hU.u23 (j := ix (T 32 m)) ho 1
        refine ⟨σ1, _, ad, _, Q, e1, X1, ?_, ?_, u, i8', tr_OT hm rfl rfl rfl⟩
        · refine cpre _ (q_t c ?_)
          have er : x_rn (mX8_readPayment F (some b) (some (ad 2 m))) (x_uI σ1 208 (ad 2 m) (T 0 0)) = some ((), x_uI (x_uI σ1 208 (ad 2 m) (T 0 0)) 406 (ad 4 (ix (T 32 m))) 1) := by
            unfold mX8_readPayment
            refine q_rR km m4 ?_
            refine q_f n_some ?_
            refine q_rR km m4 ?_
            refine q_cl (hX.k6 _ hm kk) ef ?_
            refine q_f (bi_n c2) ?_
            unfold mX8_readPayment_44
            refine q_rR km m1 ?_
            refine q_rI ko (hX.o8 _ ho) ?_
            refine q_t c3 ?_
            refine q_rR km m1 ?_
            refine q_wZ ko ?_
            exact q_e
          refine q_cl k1 er ?_
          exact q_e
        · unfold tX9_reads
          refine r_a rfl hm2 rfl ?_
          refine r_s rfl hm2 ?_
          refine r_a rfl hm2 rfl ?_
          refine r_s rfl hm2 ?_
          refine r_g rfl ?_
          refine r_s rfl hm2 ?_
          refine r_a rfl hm2 rfl ?_
          refine r_t c ?_
          refine r_st tt ?_
          refine r_a rfl hm2 rfl ?_
          refine r_t c2 ?_
          refine r_a j32.1 ho2 rfl ?_
          refine r_t c3 ?_
          refine r_z j32.1 ho2 ?_
          rfl
      · refine ⟨σ1, _, ad, _, Q, e1, X1, ?_, ?_, hU, i8', tr_OT hm rfl rfl rfl⟩
        · refine cpre _ (q_t c ?_)
          have er : x_rn (mX8_readPayment F (some b) (some (ad 2 m))) (x_uI σ1 208 (ad 2 m) (T 0 0)) = some ((), x_uI σ1 208 (ad 2 m) (T 0 0)) := by
            unfold mX8_readPayment
            refine q_rR km m4 ?_
            refine q_f n_some ?_
            refine q_rR km m4 ?_
            refine q_cl (hX.k6 _ hm kk) ef ?_
            refine q_f (bi_n c2) ?_
            unfold mX8_readPayment_44
            refine q_rR km m1 ?_
            refine q_rI ko (hX.o8 _ ho) ?_
            refine q_f c3 ?_
            exact q_e
          refine q_cl k1 er ?_
          exact q_e
        · unfold tX9_reads
          refine r_a rfl hm2 rfl ?_
          refine r_s rfl hm2 ?_
          refine r_a rfl hm2 rfl ?_
          refine r_s rfl hm2 ?_
          refine r_g rfl ?_
          refine r_s rfl hm2 ?_
          refine r_a rfl hm2 rfl ?_
          refine r_t c ?_
          refine r_st tt ?_
          refine r_a rfl hm2 rfl ?_
          refine r_t c2 ?_
          refine r_a j32.1 ho2 rfl ?_
          refine r_f c3 ?_
          rfl
    · have u := (hU.u41 (j := m) hm 1).u47 (T 47 0 + 1)
      obtain ⟨σ', ad', T', Q', w1, w2, w3, w4, -, w6, -, w8, w9, w10⟩ := u.write hs hF (kd := 3) (o := ix (T 32 m)) ho (f := T 19 (ix (T 32 m))) (t := T 18 (ix (T 32 m))) (Or.inr ⟨Or.inr rfl, rfl, rfl⟩)
      rw [← j32.1] at w2
      refine ⟨σ1, σ', ad', T', Q', e1, X1, ?_, ?_, w3, w4.trans i8', wr_OT (U := x_up (x_up (tr T m) 41 m 1) 47 0 (T 47 0 + 1)) hm rfl rfl rfl w6 w8 w9 w10⟩
      · refine cpre _ (q_t c ?_)
        have er : x_rn (mX8_readPayment F (some b) (some (ad 2 m))) (x_uI σ1 208 (ad 2 m) (T 0 0)) = some ((), σ') := by
          unfold mX8_readPayment
          refine q_rR km m4 ?_
          refine q_f n_some ?_
          refine q_rR km m4 ?_
          refine q_cl (hX.k6 _ hm kk) ef ?_
          refine q_t (bi_z c2) ?_
          refine q_wZ km ?_
          refine q_rI k1 hX.z808 ?_
          refine q_wI k1 ?_
          refine q_rR km m1 ?_
          refine q_cl k1 w1 ?_
          exact q_e
        refine q_cl k1 er ?_
        exact q_e
      · unfold tX9_reads
        refine r_a rfl hm2 rfl ?_
        refine r_s rfl hm2 ?_
        refine r_a rfl hm2 rfl ?_
        refine r_s rfl hm2 ?_
        refine r_g rfl ?_
        refine r_s rfl hm2 ?_
        refine r_a rfl hm2 rfl ?_
        refine r_t c ?_
        refine r_st tt ?_
        refine r_a rfl hm2 rfl ?_
        refine r_f c2 ?_
        refine r_z rfl hm2 ?_
        refine r_g rfl ?_
        refine r_p ?_
        refine r_a j32.1 ho2 rfl ?_
        refine r_a j32.1 ho2 rfl ?_
        refine r_st w2 ?_
        rfl
  · -- a stop
    have n0 : ¬ T 31 m = 0 := by rw [c]; decide
    have n3 : ¬ T 31 m = 3 := by rw [c]; decide
    by_cases c2 : T 24 (ix (T 32 m)) = 0
    · have u := hU.u25 (j := ix (T 32 m)) ho 1
      obtain ⟨σ', ad', T', Q', w1, w2, w3, w4, -, w6, -, w8, w9, w10⟩ := u.write hs hF (kd := 2) (o := ix (T 32 m)) ho (f := T 19 (ix (T 32 m))) (t := T 18 (ix (T 32 m))) (Or.inr ⟨Or.inl rfl, rfl, rfl⟩)
      rw [← j32.1] at w2
      refine ⟨σ1, σ', ad', T', Q', e1, X1, ?_, ?_, w3, w4.trans i8', wr_OT (U := x_up (tr T m) 25 (ix (T 32 m)) 1) hm rfl rfl rfl w6 w8 w9 w10⟩
      · refine cpre _ (q_f n0 (q_t c ?_))
        have er : x_rn (mX8_readStop F (some b) (some (ad 4 (ix (T 32 m))))) (x_uI σ1 208 (ad 2 m) (T 0 0)) = some ((), σ') := by
          unfold mX8_readStop
          refine q_rI ko (hX.o7 _ ho) ?_
          refine q_t c2 ?_
          refine q_wZ ko ?_
          refine q_cl k1 w1 ?_
          exact q_e
        refine q_rR km m1 ?_
        refine q_cl k1 er ?_
        exact q_e
      · unfold tX9_reads
        refine r_a rfl hm2 rfl ?_
        refine r_s rfl hm2 ?_
        refine r_a rfl hm2 rfl ?_
        refine r_s rfl hm2 ?_
        refine r_g rfl ?_
        refine r_s rfl hm2 ?_
        refine r_a rfl hm2 rfl ?_
        refine r_f n0 ?_
        refine r_a rfl hm2 rfl ?_
        refine r_f n3 ?_
        refine r_a rfl hm2 rfl ?_
        refine r_t c ?_
        refine r_a j32.1 ho2 rfl ?_
        refine r_t c2 ?_
        refine r_z j32.1 ho2 ?_
        refine r_a j32.1 ho2 rfl ?_
        refine r_a j32.1 ho2 rfl ?_
        refine r_st w2 ?_
        rfl
    · have u := hU.u49 (T 49 0 + 1)
      refine ⟨σ1, _, ad, _, Q, e1, X1, ?_, ?_, u, i8', tr_OT hm rfl rfl rfl⟩
      · refine cpre _ (q_f n0 (q_t c ?_))
        have er : x_rn (mX8_readStop F (some b) (some (ad 4 (ix (T 32 m))))) (x_uI σ1 208 (ad 2 m) (T 0 0)) = some ((), x_uI (x_uI σ1 208 (ad 2 m) (T 0 0)) 810 b (T 49 0 + 1)) := by
          unfold mX8_readStop
          refine q_rI ko (hX.o7 _ ho) ?_
          refine q_f c2 ?_
          refine q_rI k1 hX.z810 ?_
          refine q_wI k1 ?_
          exact q_e
        refine q_rR km m1 ?_
        refine q_cl k1 er ?_
        exact q_e
      · unfold tX9_reads
        refine r_a rfl hm2 rfl ?_
        refine r_s rfl hm2 ?_
        refine r_a rfl hm2 rfl ?_
        refine r_s rfl hm2 ?_
        refine r_g rfl ?_
        refine r_s rfl hm2 ?_
        refine r_a rfl hm2 rfl ?_
        refine r_f n0 ?_
        refine r_a rfl hm2 rfl ?_
        refine r_f n3 ?_
        refine r_a rfl hm2 rfl ?_
        refine r_t c ?_
        refine r_a j32.1 ho2 rfl ?_
        refine r_f c2 ?_
        refine r_g rfl ?_
        refine r_p ?_
        rfl
  · -- a word that it is stopped
    have n0 : ¬ T 31 m = 0 := by rw [c]; decide
    have n1 : ¬ T 31 m = 1 := by rw [c]; decide
    have n3 : ¬ T 31 m = 3 := by rw [c]; decide
    have u := (hU.u26 (j := ix (T 32 m)) ho 1).u2 (j := ix (T 18 (ix (T 32 m)))) c18 (T 2 (ix (T 18 (ix (T 32 m)))) - T 20 (ix (T 32 m)))
    refine ⟨σ1, _, ad, _, Q, e1, X1, ?_, ?_, u, i8', tr_OT hm rfl rfl rfl⟩
    · refine cpre _ (q_f n0 (q_f n1 (q_t c ?_)))
      have er : x_rn (mX8_payBack F (some b) (some (ad 4 (ix (T 32 m))))) (x_uI σ1 208 (ad 2 m) (T 0 0)) = some ((), x_uI (x_uI (x_uI σ1 208 (ad 2 m) (T 0 0)) 409 (ad 4 (ix (T 32 m))) 1) 103 (ad 1 (ix (T 18 (ix (T 32 m))))) (T 2 (ix (T 18 (ix (T 32 m)))) - T 20 (ix (T 32 m)))) := by
        unfold mX8_payBack
        refine q_wZ ko ?_
        refine q_rR ko (hX.o1 _ ho).1 ?_
        refine q_rI (hX.k1 _ c18) (hX.c3 _ c18) ?_
        refine q_rI ko (hX.o3 _ ho) ?_
        refine q_wI (hX.k1 _ c18) ?_
        exact q_e
      refine q_rR km m1 ?_
      refine q_cl k1 er ?_
      exact q_e
    · unfold tX9_reads
      refine r_a rfl hm2 rfl ?_
      refine r_s rfl hm2 ?_
      refine r_a rfl hm2 rfl ?_
      refine r_s rfl hm2 ?_
      refine r_g rfl ?_
      refine r_s rfl hm2 ?_
      refine r_a rfl hm2 rfl ?_
      refine r_f n0 ?_
      refine r_a rfl hm2 rfl ?_
      refine r_f n3 ?_
      refine r_a rfl hm2 rfl ?_
      refine r_f n1 ?_
      refine r_a j32.1 ho2 rfl ?_
      refine r_a j18.1 hf2 rfl ?_
      refine r_a j32.1 ho2 rfl ?_
      refine r_s j18.1 hf2 ?_
      refine r_z j32.1 ho2 ?_
      exact congrArg (fun W => some ((), W)) (x_up_comm (tr T m) (i := 2) (j := ix (T 18 (ix (T 32 m)))) (i' := 26) (j' := ix (T 32 m)) _ _ (by omega))
  · -- a wish for it once more
    have n0 : ¬ T 31 m = 0 := by rw [c]; decide
    have n1 : ¬ T 31 m = 1 := by rw [c]; decide
    have n2 : ¬ T 31 m = 2 := by rw [c]; decide
    by_cases c2 : T 24 (ix (T 32 m)) = 0
    case neg =>
      refine ⟨σ1, _, ad, _, Q, e1, X1, ?_, ?_, hU, i8', tr_OT hm rfl rfl rfl⟩
      · refine cpre _ (q_f n0 (q_f n1 (q_f n2 ?_)))
        have er : x_rn (mX8_readRepeat F (some b) (some (ad 4 (ix (T 32 m))))) (x_uI σ1 208 (ad 2 m) (T 0 0)) = some ((), x_uI σ1 208 (ad 2 m) (T 0 0)) := by
          unfold mX8_readRepeat
          refine q_rI ko (hX.o7 _ ho) ?_
          refine q_f c2 ?_
          exact q_e
        refine q_rR km m1 ?_
        refine q_cl k1 er ?_
        exact q_e
      · unfold tX9_reads
        refine r_a rfl hm2 rfl ?_
        refine r_s rfl hm2 ?_
        refine r_a rfl hm2 rfl ?_
        refine r_s rfl hm2 ?_
        refine r_g rfl ?_
        refine r_s rfl hm2 ?_
        refine r_a rfl hm2 rfl ?_
        refine r_f n0 ?_
        refine r_a rfl hm2 rfl ?_
        refine r_t c ?_
        refine r_a j32.1 ho2 rfl ?_
        refine r_f c2 ?_
        rfl
    by_cases c3 : T 25 (ix (T 32 m)) = 0
    case neg =>
      refine ⟨σ1, _, ad, _, Q, e1, X1, ?_, ?_, hU, i8', tr_OT hm rfl rfl rfl⟩
      · refine cpre _ (q_f n0 (q_f n1 (q_f n2 ?_)))
        have er : x_rn (mX8_readRepeat F (some b) (some (ad 4 (ix (T 32 m))))) (x_uI σ1 208 (ad 2 m) (T 0 0)) = some ((), x_uI σ1 208 (ad 2 m) (T 0 0)) := by
          unfold mX8_readRepeat
          refine q_rI ko (hX.o7 _ ho) ?_
          refine q_t c2 ?_
          refine q_rI ko (hX.o8 _ ho) ?_
          refine q_f c3 ?_
          exact q_e
        refine q_rR km m1 ?_
        refine q_cl k1 er ?_
        exact q_e
      · unfold tX9_reads
        refine r_a rfl hm2 rfl ?_
        refine r_s rfl hm2 ?_
        refine r_a rfl hm2 rfl ?_
        refine r_s rfl hm2 ?_
        refine r_g rfl ?_
        refine r_s rfl hm2 ?_
        refine r_a rfl hm2 rfl ?_
        refine r_f n0 ?_
        refine r_a rfl hm2 rfl ?_
        refine r_t c ?_
        refine r_a j32.1 ho2 rfl ?_
        refine r_t c2 ?_
        refine r_a j32.1 ho2 rfl ?_
        refine r_f c3 ?_
        rfl
    obtain ⟨σ', ad', T', Q', w1, w2, w3, w4, -, w6, -, w8, w9, w10⟩ := hU.write hs hF (kd := 0) (o := ix (T 32 m)) ho (f := T 18 (ix (T 32 m))) (t := T 19 (ix (T 32 m))) (Or.inl ⟨Or.inl rfl, rfl, rfl⟩)
    rw [← j32.1] at w2
    refine ⟨σ1, σ', ad', T', Q', e1, X1, ?_, ?_, w3, w4.trans i8', wr_OT (U := tr T m) hm rfl rfl rfl w6 w8 w9 w10⟩
    · refine cpre _ (q_f n0 (q_f n1 (q_f n2 ?_)))
      have er : x_rn (mX8_readRepeat F (some b) (some (ad 4 (ix (T 32 m))))) (x_uI σ1 208 (ad 2 m) (T 0 0)) = some ((), σ') := by
        unfold mX8_readRepeat
        refine q_rI ko (hX.o7 _ ho) ?_
        refine q_t c2 ?_
        refine q_rI ko (hX.o8 _ ho) ?_
        refine q_t c3 ?_
        refine q_cl k1 w1 ?_
        exact q_e
      refine q_rR km m1 ?_
      refine q_cl k1 er ?_
      exact q_e
    · unfold tX9_reads
      refine r_a rfl hm2 rfl ?_
      refine r_s rfl hm2 ?_
      refine r_a rfl hm2 rfl ?_
      refine r_s rfl hm2 ?_
      refine r_g rfl ?_
      refine r_s rfl hm2 ?_
      refine r_a rfl hm2 rfl ?_
      refine r_f n0 ?_
      refine r_a rfl hm2 rfl ?_
      refine r_t c ?_
      refine r_a j32.1 ho2 rfl ?_
      refine r_t c2 ?_
      refine r_a j32.1 ho2 rfl ?_
      refine r_t c3 ?_
      refine r_a j32.1 ho2 rfl ?_
      refine r_a j32.1 ho2 rfl ?_
      refine r_st w2 ?_
      rfl
end PRd
