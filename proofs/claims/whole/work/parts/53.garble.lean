section PG
variable {b : Nat} {ad : Ad} {T : Tb} {Q : Qs} {σ : PH} {s k : Nat}
theorem JT.rl (h : JT s T) : ∀ w v, w < cW T → v < 10 → Dm T (ix (T 8 w)) v ≤ Dm T (ix (T 9 w)) v + ix (T 10 w) ∧ Dm T (ix (T 9 w)) v ≤ Dm T (ix (T 8 w)) v + ix (T 10 w) := h.2.2.2.2.2.2.2.2.2.2.2.1
theorem JT.sp (h : JT s T) : ∀ i j, i < 10 → j < 10 → i ≠ j → Dm T i j < 1000000 → ∃ w, w < cW T ∧ ((ix (T 8 w) = i ∧ Dm T i j = ix (T 10 w) + Dm T (ix (T 9 w)) j) ∨ (ix (T 9 w) = i ∧ Dm T i j = ix (T 10 w) + Dm T (ix (T 8 w)) j)) := h.2.2.2.2.2.2.2.2.2.2.2.2.1
theorem JT.mq (h : JT s T) : ∀ m, m < cM T → T 35 m = 0 → isN (T 37 m) (cW T) ∧ (ix (T 36 m) = ix (T 8 (ix (T 37 m))) ∨ ix (T 36 m) = ix (T 9 (ix (T 37 m)))) := h.2.2.2.2.2.2.2.2.2.2.2.2.2.2.2.1
theorem JT.mw (h : JT s T) : ∀ m, m < cM T → T 35 m = 1 → isN (T 39 m) (ix (T 0 0) + 61) ∧ ix (T 0 0) ≤ ix (T 39 m) := h.2.2.2.2.2.2.2.2.2.2.2.2.2.2.2.2.1
theorem JT.mr (h : JT s T) : ∀ m, m < cM T → (T 35 m ≠ 2 → Dm T (ix (T 36 m)) (ix (T 34 m)) < 1000000 ∧ T 40 m = -1) ∧ (T 35 m = 2 → T 40 m ≠ -1) := h.2.2.2.2.2.2.2.2.2.2.2.2.2.2.2.2.2.1
theorem JT.fC (h : JT s T) : ∀ i, cC T ≤ i → T 5 i = 0 ∧ T 6 i = 0 := h.2.2.2.2.2.2.2.2.2.2.2.2.2.2.2.2.2.2.1
theorem JT.fW (h : JT s T) : ∀ i, cW T ≤ i → T 11 i = 0 ∧ T 12 i = 0 := h.2.2.2.2.2.2.2.2.2.2.2.2.2.2.2.2.2.2.2.1
theorem JT.fO (h : JT s T) : ∀ i, cO T ≤ i → T 23 i = 0 ∧ T 24 i = 0 ∧ T 25 i = 0 ∧ T 26 i = 0 ∧ T 27 i = 0 ∧ T 29 i = 0 := h.2.2.2.2.2.2.2.2.2.2.2.2.2.2.2.2.2.2.2.2.1
theorem JT.fM (h : JT s T) : ∀ i, cM T ≤ i → T 41 i = 0 ∧ T 42 i = 0 := h.2.2.2.2.2.2.2.2.2.2.2.2.2.2.2.2.2.2.2.2.2.1
theorem JT.kn (h : JT s T) : ∀ m, m < cM T → T 31 m = 0 ∨ T 31 m = 1 ∨ T 31 m = 2 ∨ T 31 m = 3 := h.2.2.2.2.2.2.2.2.2.2.2.2.2.2.2.2.2.2.2.2.2.2
theorem RX.u45 (h : RX b ad T Q σ) {m j : Nat} (hm : m < cM T) (hp : T 31 m = 0) (hj : j < 13) (v : Int32) : RX b ad (x_up T 45 (13 * m + j) v) Q (x_uA σ (ad 10 m) j v) := by
  have h53 := (h.kd _ hm hp).2.2
  obtain ⟨hfK, hfL, hfR, hwf, hk1, hk2, hk4, hk5, hk7, hk6, hkd, hj1, hj2, hj4, hj5, hj7, hj6, hjd, hc0, hc1, hc2, hc3, hc4, hc5, hw0, hw2, hw3, hw4, hq0, hq2, hq3, hq4, hqn, hqz, ho0, ho1, ho3, ho4, ho5, ho6, ho7, ho8, ho9, ho10, ho11, ho12, hm0, hm1, hm2, hm3, hm4, hm5, hm6, hm7, hm8, hm9, hs0, hs2, hs3, hs1, hsd, hz804, hz805, hz806, hz808, hz809, hz810, hz300, hz301, hz2, ha1, ha7, ha4, ha2, hab, haf, hal⟩ := h
  exact ⟨hfK, hfL, hfR, hwf, hk1, hk2, hk4, hk5, hk7, hk6, hkd, hj1, hj2, hj4, hj5, hj7, hj6, hjd, hc0, hc1, hc2, hc3, hc4, hc5, hw0, hw2, hw3, hw4, hq0, hq2, hq3, hq4, hqn, hqz, ho0, ho1, ho3, ho4, ho5, ho6, ho7, ho8, ho9, ho10, ho11, ho12, hm0, hm1, hm2, hm3, hm4, hm5, hm6, hm7, hm8, hm9, hs0, hs2, hs3, hs1, (fun i hi hq l hl => by
    show (if ad 10 i = ad 10 m ∧ l = j then v else x_A σ (ad 10 i) l) = (if 45 = 45 ∧ 13 * i + l = 13 * m + j then v else T 45 (13 * i + l))
    by_cases e : i = m
    · subst e
      by_cases e2 : l = j
      · subst e2; simp
      · rw [if_neg (by rintro ⟨-, q⟩; exact e2 q), if_neg (by rintro ⟨-, q⟩; omega)]; exact hsd i hi hq l hl
    · rw [if_neg (by rintro ⟨q, -⟩; exact e ((hjd i m hi hm hq hp).mp q)), if_neg (by rintro ⟨-, q⟩; omega)]; exact hsd i hi hq l hl), hz804, hz805, hz806, hz808, hz809, hz810, hz300, hz301, hz2, ha1, ha7, ha4, ha2, (fun i hi => by
    show (if b + 8 = ad 10 m ∧ i = j then v else x_A σ (b + 8) i) = T 15 i
    rw [if_neg (by omega)]; exact hab i hi), (fun i hi => by
    show (if b + 9 = ad 10 m ∧ i = j then v else x_A σ (b + 9) i) = T 16 i
    rw [if_neg (by omega)]; exact haf i hi), (fun i hi => by
    show (if b + 4 = ad 10 m ∧ i = j then v else x_A σ (b + 4) i) = T 13 i
    rw [if_neg (by omega)]; exact hal i hi)⟩
theorem JT.u45 (h : JT s T) {i : Nat} {v : Int32} : JT s (x_up T 45 i v) := by
  obtain ⟨hC, hW, hB, hO, hM, hnw, hpu, hop, hwi, hls, hdg, hrl, hsp, hor, hme, hmq, hmw, hmr, hfC, hfW, hfO, hfM, hkn⟩ := h
  exact ⟨hC, hW, hB, hO, hM, hnw, hpu, hop, hwi, hls, hdg, hrl, hsp, hor, hme, hmq, hmw, hmr, hfC, hfW, hfO, hfM, hkn⟩
theorem INX.u45 {T2 : Tb} (h : INX s k b ad T Q T2 σ) {m j : Nat} (hm : m < cM T) (hp : T 31 m = 0) (hj : j < 13) (v : Int32) : INX s k b ad (x_up T 45 (13 * m + j) v) Q T2 (x_uA σ (ad 10 m) j v) := by
  have h53 := (h.1.kd _ hm hp).2.2
  obtain ⟨h1, h2, h3, h4, h5, h6, h7⟩ := h
  exact ⟨h1.u45 hm hp hj v, h2.uA v (Or.inr h53), h3.u45, h4, h5, h6.congr rfl rfl rfl rfl rfl rfl, h7⟩
theorem i_13 {x : Int32} : (0 ≤ x ∧ x ≤ 12) → x = nI (ix x) ∧ ix x < 13 := by
  intro h
  refine i_in h.1 ?_ (by decide)
  have h2 := h.2
  rw [i_le] at h2
  rw [i_lt, i_nI (by decide)]
  have : x.toInt ≤ 12 := h2
  show x.toInt < ((13 : Nat) : Int)
  omega
theorem i_lt13 {x : Int32} : nI 13 ≤ x ↔ ¬ x ≤ 12 := by
  rw [i_le, i_le, i_nI (by decide)]
  show ((13 : Nat) : Int) ≤ _ ↔ ¬ (_ ≤ (12 : Int))
  omega
theorem p_garble (h : INV b ad T Q σ) (F : Nat) (x y z : Int32) : SIM b (mX8_garble F (some b) x y z) (mX9_garble F (some (b + 12)) x y z) σ := by
  obtain ⟨hX, hM, hJ, -⟩ := id h
  have k1 := hX.fK.1
  have e1 := e_findMessage hX hJ F x
  have t1 := t_isPayment hJ F x
  by_cases c1 : 0 ≤ x ∧ x < T 30 0
  · obtain ⟨f1, f2⟩ := in_of hJ.M (by omega) c1
    have f3 : ix x < cM T := f2
    rw [fd_some c1] at e1
    have hc := hJ.nM
    have hx : ix x < 1000 := by omega
    have km := hX.k2 _ f3
    by_cases c2 : T 31 (ix x) = 0
    · have m4 := hX.m4 _ f3
      rw [if_pos c2] at m4
      have ks := hX.k6 _ f3 c2
      obtain ⟨kd, ld, -⟩ := hX.kd _ f3 c2
      have s1 := hX.s1 _ f3 c2
      by_cases c3 : T 35 (ix x) = 2
      · refine SIM.read (g := tX9_garble F x y z) (r := 0) h ?_ (fun hk => sX9_garble hk F x y z) ?_
        · have er : x_rn (mX2_isRead F (some (ad 2 (ix x)))) σ = some (1, σ) := by
            unfold mX2_isRead
            refine q_rI km (hX.m8 _ f3) ?_
            refine q_f ((hJ.mr _ f3).2 c3) ?_
            exact q_e
          unfold mX8_garble
          refine q_cl k1 e1 ?_
          refine q_f n_some ?_
          refine q_rR km m4 ?_
          refine q_f n_some ?_
          refine q_cl km er ?_
          refine q_f (by decide) ?_
          exact q_e
        · unfold tX9_garble
          refine r_st t1 ?_
          refine r_f (bi_n ⟨c1, c2⟩) ?_
          refine r_a f1 hx rfl ?_
          refine r_t c3 ?_
          rfl
      have er : x_rn (mX2_isRead F (some (ad 2 (ix x)))) σ = some (0, σ) := by
        unfold mX2_isRead
        refine q_rI km (hX.m8 _ f3) ?_
        refine q_t ((hJ.mr _ f3).1 c3).2 ?_
        exact q_e
      suffices hs : ∃ (r : Int32) (T' : Tb) (σ' : PH), (r = 0 ∨ r = 1) ∧ x_rn (mX6_change F (some (ad 6 (ix x))) y z) σ = some (r, σ') ∧ INX 0 1000 b ad T' Q T σ' ∧ tX9_garble F x y z T = some (r, T') by
        obtain ⟨r, T', σ', hr, g1, g2, g3⟩ := hs
        refine SIM.write (g := tX9_garble F x y z) (r := r) g2 ?_ (fun hk => sX9_garble hk F x y z) g3
        unfold mX8_garble
        refine q_cl k1 e1 ?_
        refine q_f n_some ?_
        refine q_rR km m4 ?_
        refine q_f n_some ?_
        refine q_cl km er ?_
        refine q_t rfl ?_
        refine q_rR km m4 ?_
        refine q_cl ks g1 ?_
        refine q_t hr ?_
        exact q_e
      by_cases c4 : T 42 (ix x) = 0
      case neg =>
        refine ⟨0, T, σ, Or.inl rfl, ?_, h.x, ?_⟩
        · unfold mX6_change
          refine q_rI ks (hX.s3 _ f3 c2) ?_
          refine q_f c4 ?_
          exact q_e
        · unfold tX9_garble
          refine r_st t1 ?_
          refine r_f (bi_n ⟨c1, c2⟩) ?_
          refine r_a f1 hx rfl ?_
          refine r_f c3 ?_
          refine r_a f1 hx rfl ?_
          refine r_f c4 ?_
          rfl
      by_cases c5 : 0 ≤ y ∧ y ≤ 12
      case neg =>
        refine ⟨0, T, σ, Or.inl rfl, ?_, h.x, ?_⟩
        · unfold mX6_change
          refine q_rI ks (hX.s3 _ f3 c2) ?_
          refine q_t c4 ?_
          by_cases d1 : y < 0
          · exact q_t d1 q_e
          · refine q_f d1 ?_
            refine q_rR ks s1 ?_
            refine q_aL kd ld ?_
            refine q_t (i_lt13.mpr (fun q => c5 ⟨i_nlt.mp d1, q⟩)) ?_
            exact q_e
        · unfold tX9_garble
          refine r_st t1 ?_
          refine r_f (bi_n ⟨c1, c2⟩) ?_
          refine r_a f1 hx rfl ?_
          refine r_f c3 ?_
          refine r_a f1 hx rfl ?_
          refine r_t c4 ?_
          refine r_st (t_in _ _ _ _ _) ?_
          refine r_t (bi_z c5) ?_
          rfl
      obtain ⟨g1, g2⟩ := i_13 c5
      have d1 : ¬ y < 0 := i_nlt.mpr c5.1
      have d2 : ¬ nI 13 ≤ y := fun q => i_lt13.mp q c5.2
      by_cases c6 : 0 ≤ z ∧ z ≤ 9
      case neg =>
        refine ⟨0, T, σ, Or.inl rfl, ?_, h.x, ?_⟩
        · unfold mX6_change
          refine q_rI ks (hX.s3 _ f3 c2) ?_
          refine q_t c4 ?_
          refine q_f d1 ?_
          refine q_rR ks s1 ?_
          refine q_aL kd ld ?_
          refine q_f d2 ?_
          by_cases d3 : z < 0
          · exact q_t d3 q_e
          · refine q_f d3 ?_
            refine q_t (i_nle.mp (fun q => c6 ⟨i_nlt.mp d3, q⟩)) ?_
            exact q_e
        · unfold tX9_garble
          refine r_st t1 ?_
          refine r_f (bi_n ⟨c1, c2⟩) ?_
          refine r_a f1 hx rfl ?_
          refine r_f c3 ?_
          refine r_a f1 hx rfl ?_
          refine r_t c4 ?_
          refine r_st (t_in _ _ _ _ _) ?_
          refine r_f (bi_n c5) ?_
          refine r_st (t_in _ _ _ _ _) ?_
          refine r_t (bi_z c6) ?_
          rfl
      have d3 : ¬ z < 0 := i_nlt.mpr c6.1
      have d4 : ¬ (9 : Int32) < z := i_nlt.mpr c6.2
      have e13 : (13 : Int32) * x + y = nI (13 * ix x + ix y) := by
        rw [← nI13, ← f1, ← g1]
      have h13 : 13 * ix x + ix y < 13000 := by omega
      by_cases c7 : T 45 (13 * ix x + ix y) = z
      · refine ⟨0, T, σ, Or.inl rfl, ?_, h.x, ?_⟩
        · unfold mX6_change
          refine q_rI ks (hX.s3 _ f3 c2) ?_
          refine q_t c4 ?_
          refine q_f d1 ?_
          refine q_rR ks s1 ?_
          refine q_aL kd ld ?_
          refine q_f d2 ?_
          refine q_f d3 ?_
          refine q_f d4 ?_
          refine q_rR ks s1 ?_
          refine q_aI g1 kd ld g2 (by decide) (hX.sd _ f3 c2 _ g2) ?_
          refine q_t c7 ?_
          exact q_e
        · unfold tX9_garble
          refine r_st t1 ?_
          refine r_f (bi_n ⟨c1, c2⟩) ?_
          refine r_a f1 hx rfl ?_
          refine r_f c3 ?_
          refine r_a f1 hx rfl ?_
          refine r_t c4 ?_
          refine r_st (t_in _ _ _ _ _) ?_
          refine r_f (bi_n c5) ?_
          refine r_st (t_in _ _ _ _ _) ?_
          refine r_f (bi_n c6) ?_
          refine r_a e13 h13 rfl ?_
          refine r_t c7 ?_
          rfl
      · have u1 := h.x.u45 f3 c2 g2 z
        have u2 := u1.u42 (j := ix x) f3 c2 1
        refine ⟨1, _, _, Or.inr rfl, ?_, u2, ?_⟩
        · unfold mX6_change
          refine q_rI ks (hX.s3 _ f3 c2) ?_
          refine q_t c4 ?_
          refine q_f d1 ?_
          refine q_rR ks s1 ?_
          refine q_aL kd ld ?_
          refine q_f d2 ?_
          refine q_f d3 ?_
          refine q_f d4 ?_
          refine q_rR ks s1 ?_
          refine q_aI g1 kd ld g2 (by decide) (hX.sd _ f3 c2 _ g2) ?_
          refine q_f c7 ?_
          refine q_rR ks s1 ?_
          refine q_sI g1 kd ld g2 (by decide) ?_
          refine q_wZ ks ?_
          exact q_e
        · unfold tX9_garble
          refine r_st t1 ?_
          refine r_f (bi_n ⟨c1, c2⟩) ?_
          refine r_a f1 hx rfl ?_
          refine r_f c3 ?_
          refine r_a f1 hx rfl ?_
          refine r_t c4 ?_
          refine r_st (t_in _ _ _ _ _) ?_
          refine r_f (bi_n c5) ?_
          refine r_st (t_in _ _ _ _ _) ?_
          refine r_f (bi_n c6) ?_
          refine r_a e13 h13 rfl ?_
          refine r_f c7 ?_
          refine r_s e13 h13 ?_
          refine r_z f1 hx ?_
          rfl
    · have m4 := hX.m4 _ f3
      rw [if_neg c2] at m4
      refine SIM.read (g := tX9_garble F x y z) (r := 0) h ?_ (fun hk => sX9_garble hk F x y z) ?_
      · unfold mX8_garble
        refine q_cl k1 e1 ?_
        refine q_f n_some ?_
        refine q_rR km m4 ?_
        refine q_t rfl ?_
        exact q_e
      · unfold tX9_garble
        refine r_st t1 ?_
        refine r_t (bi_z (fun q => c2 q.2)) ?_
        rfl
  · rw [fd_none.mpr c1] at e1
    refine SIM.read (g := tX9_garble F x y z) (r := 0) h ?_ (fun hk => sX9_garble hk F x y z) ?_
    · unfold mX8_garble
      refine q_cl k1 e1 ?_
      refine q_t rfl ?_
      exact q_e
    · unfold tX9_garble
      refine r_st t1 ?_
      refine r_t (bi_z (fun q => c1 q.1)) ?_
      rfl
/-! band -/
theorem RX.u15 (h : RX b ad T Q σ) {j : Nat} (v : Int32) : RX b ad (x_up T 15 j v) Q (x_uA σ (b + 8) j v) := by
  obtain ⟨hfK, hfL, hfR, hwf, hk1, hk2, hk4, hk5, hk7, hk6, hkd, hj1, hj2, hj4, hj5, hj7, hj6, hjd, hc0, hc1, hc2, hc3, hc4, hc5, hw0, hw2, hw3, hw4, hq0, hq2, hq3, hq4, hqn, hqz, ho0, ho1, ho3, ho4, ho5, ho6, ho7, ho8, ho9, ho10, ho11, ho12, hm0, hm1, hm2, hm3, hm4, hm5, hm6, hm7, hm8, hm9, hs0, hs2, hs3, hs1, hsd, hz804, hz805, hz806, hz808, hz809, hz810, hz300, hz301, hz2, ha1, ha7, ha4, ha2, hab, haf, hal⟩ := h
  exact ⟨hfK, hfL, hfR, hwf, hk1, hk2, hk4, hk5, hk7, hk6, hkd, hj1, hj2, hj4, hj5, hj7, hj6, hjd, hc0, hc1, hc2, hc3, hc4, hc5, hw0, hw2, hw3, hw4, hq0, hq2, hq3, hq4, hqn, hqz, ho0, ho1, ho3, ho4, ho5, ho6, ho7, ho8, ho9, ho10, ho11, ho12, hm0, hm1, hm2, hm3, hm4, hm5, hm6, hm7, hm8, hm9, hs0, hs2, hs3, hs1, (fun i hi hq l hl => by
    have := (hkd i hi hq).2.2
    show (if ad 10 i = b + 8 ∧ l = j then v else x_A σ (ad 10 i) l) = T 45 (13 * i + l)
    rw [if_neg (by omega)]; exact hsd i hi hq l hl), hz804, hz805, hz806, hz808, hz809, hz810, hz300, hz301, hz2, ha1, ha7, ha4, ha2, (fun i hi => by
    show (if b + 8 = b + 8 ∧ i = j then v else x_A σ (b + 8) i) = (if 15 = 15 ∧ i = j then v else T 15 i)
    by_cases e : i = j
    · simp [e]
    · simp only [e, and_false, if_false]; exact hab i hi), (fun i hi => by
    show (if b + 9 = b + 8 ∧ i = j then v else x_A σ (b + 9) i) = T 16 i
    rw [if_neg (by omega)]; exact haf i hi), (fun i hi => by
    show (if b + 4 = b + 8 ∧ i = j then v else x_A σ (b + 4) i) = T 13 i
    rw [if_neg (by omega)]; exact hal i hi)⟩
theorem RX.u16 (h : RX b ad T Q σ) {j : Nat} (v : Int32) : RX b ad (x_up T 16 j v) Q (x_uA σ (b + 9) j v) := by
  obtain ⟨hfK, hfL, hfR, hwf, hk1, hk2, hk4, hk5, hk7, hk6, hkd, hj1, hj2, hj4, hj5, hj7, hj6, hjd, hc0, hc1, hc2, hc3, hc4, hc5, hw0, hw2, hw3, hw4, hq0, hq2, hq3, hq4, hqn, hqz, ho0, ho1, ho3, ho4, ho5, ho6, ho7, ho8, ho9, ho10, ho11, ho12, hm0, hm1, hm2, hm3, hm4, hm5, hm6, hm7, hm8, hm9, hs0, hs2, hs3, hs1, hsd, hz804, hz805, hz806, hz808, hz809, hz810, hz300, hz301, hz2, ha1, ha7, ha4, ha2, hab, haf, hal⟩ := h
  exact ⟨hfK, hfL, hfR, hwf, hk1, hk2, hk4, hk5, hk7, hk6, hkd, hj1, hj2, hj4, hj5, hj7, hj6, hjd, hc0, hc1, hc2, hc3, hc4, hc5, hw0, hw2, hw3, hw4, hq0, hq2, hq3, hq4, hqn, hqz, ho0, ho1, ho3, ho4, ho5, ho6, ho7, ho8, ho9, ho10, ho11, ho12, hm0, hm1, hm2, hm3, hm4, hm5, hm6, hm7, hm8, hm9, hs0, hs2, hs3, hs1, (fun i hi hq l hl => by
    have := (hkd i hi hq).2.2
    show (if ad 10 i = b + 9 ∧ l = j then v else x_A σ (ad 10 i) l) = T 45 (13 * i + l)
    rw [if_neg (by omega)]; exact hsd i hi hq l hl), hz804, hz805, hz806, hz808, hz809, hz810, hz300, hz301, hz2, ha1, ha7, ha4, ha2, (fun i hi => by
    show (if b + 8 = b + 9 ∧ i = j then v else x_A σ (b + 8) i) = T 15 i
    rw [if_neg (by omega)]; exact hab i hi), (fun i hi => by
    show (if b + 9 = b + 9 ∧ i = j then v else x_A σ (b + 9) i) = (if 16 = 16 ∧ i = j then v else T 16 i)
    by_cases e : i = j
    · simp [e]
    · simp only [e, and_false, if_false]; exact haf i hi), (fun i hi => by
    show (if b + 4 = b + 9 ∧ i = j then v else x_A σ (b + 4) i) = T 13 i
    rw [if_neg (by omega)]; exact hal i hi)⟩
theorem JT.uB (h : JT s T) {j : Nat} {v w u : Int32} (hu : isN u 9) : JT s (x_up (x_up (x_up T 15 j v) 16 j w) 14 0 u) := by
  obtain ⟨hC, hW, hB, hO, hM, hnw, hpu, hop, hwi, hls, hdg, hrl, hsp, hor, hme, hmq, hmw, hmr, hfC, hfW, hfO, hfM, hkn⟩ := h
  exact ⟨hC, hW, hu, hO, hM, hnw, hpu, hop, hwi, hls, hdg, hrl, hsp, hor, hme, hmq, hmw, hmr, hfC, hfW, hfO, hfM, hkn⟩
theorem INX.uB {T2 : Tb} (h : INX s k b ad T Q T2 σ) {j : Nat} (v w u : Int32) (hu : isN u 9) : INX s k b ad (x_up (x_up (x_up T 15 j v) 16 j w) 14 0 u) Q T2 (x_uI (x_uA (x_uA σ (b + 8) j v) (b + 9) j w) 2 (b + 7) u) := by
  obtain ⟨h1, h2, h3, h4, h5, h6, h7⟩ := h
  exact ⟨((h1.u15 v).u16 w).u14 u, ((h2.uA v (Or.inl (by omega))).uA w (Or.inl (by omega))).uI u (by decide), h3.uB hu, h4, h5, h6.congr rfl rfl rfl rfl rfl rfl, h7⟩
theorem p_band (h : INV b ad T Q σ) (F : Nat) (x y : Int32) : SIM b (mX8_band F (some b) x y) (mX9_band F (some (b + 12)) x y) σ := by
  obtain ⟨hX, hM, hJ, -⟩ := id h
  have k1 := hX.fK.1
  have k8 := hX.fK.2.2.2.2.2.2.2.1
  have k9 := hX.fK.2.2.2.2.2.2.2.2.1
  have k10 := hX.fK.2.2.2.2.2.2.2.2.2.1
  have l8 := hX.fL.2.2.2.2.2.1
  have l9 := hX.fL.2.2.2.2.2.2.1
  have r2 := hX.fR.2.1
  have r10 := hX.fR.2.2.2.2.2.2.2.2.2.1
  have r11 := hX.fR.2.2.2.2.2.2.2.2.2.2
  have z2 := hX.z2
  have hB := hJ.nB
  have hb := hJ.B
  have hn : T 14 0 = nI (cB T) := hb.1
  by_cases c1 : 1 ≤ x ∧ x ≤ 99999
  case neg =>
    refine SIM.read (g := tX9_band F x y) (r := 0) h ?_ (fun hk => sX9_band hk F x y) ?_
    · unfold mX8_band
      refine q_st (e_within _ _ _ _ _) ?_
      refine q_t (bi_z c1) ?_
      exact q_e
    · unfold tX9_band
      refine r_st (t_in _ _ _ _ _) ?_
      refine r_t (bi_z c1) ?_
      rfl
  by_cases c2 : 0 ≤ y ∧ y ≤ 1000
  case neg =>
    refine SIM.read (g := tX9_band F x y) (r := 0) h ?_ (fun hk => sX9_band hk F x y) ?_
    · unfold mX8_band
      refine q_st (e_within _ _ _ _ _) ?_
      refine q_f (bi_n c1) ?_
      refine q_st (e_within _ _ _ _ _) ?_
      refine q_t (bi_z c2) ?_
      exact q_e
    · unfold tX9_band
      refine r_st (t_in _ _ _ _ _) ?_
      refine r_f (bi_n c1) ?_
      refine r_st (t_in _ _ _ _ _) ?_
      refine r_t (bi_z c2) ?_
      rfl
  suffices hs : ∃ (r : Int32) (T' : Tb) (σ' : PH), (r = 0 ∨ r = 1) ∧ x_rn (mX0_add F (some (b + 7)) x y) σ = some (r, σ') ∧ INX 0 1000 b ad T' Q T σ' ∧ tX9_band F x y T = some (r, T') by
    obtain ⟨r, T', σ', hr, g1, g2, g3⟩ := hs
    refine SIM.write (g := tX9_band F x y) (r := r) g2 ?_ (fun hk => sX9_band hk F x y) g3
    unfold mX8_band
    refine q_st (e_within _ _ _ _ _) ?_
    refine q_f (bi_n c1) ?_
    refine q_st (e_within _ _ _ _ _) ?_
    refine q_f (bi_n c2) ?_
    refine q_rR k1 r2 ?_
    refine q_cl k8 g1 ?_
    rcases hr with rfl | rfl
    · exact q_t rfl q_e
    · exact q_f (by decide) q_e
  by_cases c3 : cB T = 8
  · refine ⟨0, T, σ, Or.inl rfl, ?_, h.x, ?_⟩
    · unfold mX0_add
      refine q_rI k8 z2 ?_
      refine q_t (by rw [hn, c3]; decide) ?_
      exact q_e
    · unfold tX9_band
      refine r_st (t_in _ _ _ _ _) ?_
      refine r_f (bi_n c1) ?_
      refine r_st (t_in _ _ _ _ _) ?_
      refine r_f (bi_n c2) ?_
      refine r_g rfl ?_
      refine r_t (by rw [hn, c3]; rfl) ?_
      rfl
  have c3' : cB T < 8 := by omega
  have d1 : ¬ (8 : Int32) ≤ T 14 0 := by rw [hn]; exact nI_ge (b := 8) c3' (by decide)
  have d2 : ¬ T 14 0 = (8 : Int32) := by
    intro q
    have := congrArg ix q
    exact c3 this
  have u := h.x.uB (j := cB T) x y (nI (cB T + 1)) (isN.of (by omega) (by decide))
  have wr : ∀ F', tX9_band_54 F' x y T = some (1, x_up (x_up (x_up T 15 (cB T) x) 16 (cB T) y) 14 0 (nI (cB T + 1))) := by
    intro F'
    have h8 : cB T < 8 := c3'
    unfold tX9_band_54
    refine r_g rfl ?_
    refine r_s hn h8 ?_
    refine r_g rfl ?_
    refine r_s hn h8 ?_
    refine r_g rfl ?_
    refine r_p ?_
    show some ((1 : Int32), x_up _ 14 0 (T 14 0 + 1)) = _
    rw [hn, nI_1]
  have ww : x_rn (mX0_highestBound F (some (b + 7))) σ = some (if cB T = 0 then 0 else T 15 (cB T - 1), σ) := by
    unfold mX0_highestBound
    refine q_rI k8 z2 ?_
    by_cases c4 : cB T = 0
    · rw [if_pos c4]
      exact q_t (by rw [hn, c4]; decide) q_e
    · rw [if_neg c4]
      refine q_f (by rw [hn]; exact nI_nle (by omega) (by omega)) ?_
      refine q_rI k8 z2 ?_
      refine q_f (by rw [hn]; exact nI_nlt (a := 8) (by omega) (by decide)) ?_
      refine q_rR k8 r10 ?_
      refine q_rI k8 z2 ?_
      refine q_aI (j := cB T - 1) (by rw [hn]; exact pk_sub (b := 1) (by omega)) k9 l8 (by omega) (by decide) (hX.ab _ (by omega)) ?_
      exact q_e
  by_cases c4 : cB T = 0
  · refine ⟨1, _, _, Or.inr rfl, ?_, u, ?_⟩
    · rw [if_pos c4] at ww
      unfold mX0_add
      refine q_rI k8 z2 ?_
      refine q_f d1 ?_
      refine q_cl k8 ww ?_
      refine q_t (by have := c1.1; rw [i_le] at this; rw [i_lt]; exact this) ?_
      refine q_rR k8 r10 ?_
      refine q_rI k8 z2 ?_
      refine q_sI hn k9 l8 c3' (by decide) ?_
      refine q_rR k8 r11 ?_
      refine q_rI k8 z2 ?_
      refine q_sI hn k10 l9 c3' (by decide) ?_
      refine q_rI k8 z2 ?_
      refine q_wI k8 ?_
      rw [hn, nI_1]
      exact q_e
    · unfold tX9_band
      refine r_st (t_in _ _ _ _ _) ?_
      refine r_f (bi_n c1) ?_
      refine r_st (t_in _ _ _ _ _) ?_
      refine r_f (bi_n c2) ?_
      refine r_g rfl ?_
      refine r_f d2 ?_
      refine r_g rfl ?_
      refine r_t (by rw [hn, c4]; decide) ?_
      exact wr F
  · rw [if_neg c4] at ww
    have h8 : cB T - 1 < 8 := by omega
    have e4 : T 14 0 - 1 = nI (cB T - 1) := by rw [hn]; exact pk_sub (b := 1) (by omega)
    have d3 : ¬ T 14 0 ≤ 0 := by rw [hn]; exact nI_nle (by omega) (by omega)
    by_cases c5 : T 15 (cB T - 1) < x
    · refine ⟨1, _, _, Or.inr rfl, ?_, u, ?_⟩
      · unfold mX0_add
        refine q_rI k8 z2 ?_
        refine q_f d1 ?_
        refine q_cl k8 ww ?_
        refine q_t c5 ?_
        refine q_rR k8 r10 ?_
        refine q_rI k8 z2 ?_
        refine q_sI hn k9 l8 c3' (by decide) ?_
        refine q_rR k8 r11 ?_
        refine q_rI k8 z2 ?_
        refine q_sI hn k10 l9 c3' (by decide) ?_
        refine q_rI k8 z2 ?_
        refine q_wI k8 ?_
        rw [hn, nI_1]
        exact q_e
      · unfold tX9_band
        refine r_st (t_in _ _ _ _ _) ?_
        refine r_f (bi_n c1) ?_
        refine r_st (t_in _ _ _ _ _) ?_
        refine r_f (bi_n c2) ?_
        refine r_g rfl ?_
        refine r_f d2 ?_
        refine r_g rfl ?_
        refine r_f d3 ?_
        refine r_g rfl ?_
        refine r_a e4 h8 rfl ?_
        refine r_t c5 ?_
        exact wr F
    · refine ⟨0, T, σ, Or.inl rfl, ?_, h.x, ?_⟩
      · unfold mX0_add
        refine q_rI k8 z2 ?_
        refine q_f d1 ?_
        refine q_cl k8 ww ?_
        refine q_f c5 ?_
        exact q_e
      · unfold tX9_band
        refine r_st (t_in _ _ _ _ _) ?_
        refine r_f (bi_n c1) ?_
        refine r_st (t_in _ _ _ _ _) ?_
        refine r_f (bi_n c2) ?_
        refine r_g rfl ?_
        refine r_f d2 ?_
        refine r_g rfl ?_
        refine r_f d3 ?_
        refine r_g rfl ?_
        refine r_a e4 h8 rfl ?_
        refine r_f c5 ?_
        rfl
end PG
