section PO
variable {b : Nat} {ad : Ad} {T T2 : Tb} {Q : Qs} {σ : PH} {s k : Nat}
theorem isN_m1 {x : Int32} {n : Nat} (h : isN x n) (hn : n ≤ 2147483648) : ¬ x = -1 := by
  intro q
  have := h.ti hn
  rw [q] at this
  have e : (-1 : Int32).toInt = -1 := rfl
  omega
theorem p_stop (h : INV b ad T Q σ) {F : Nat} (hF : 1000 < F) (x : Int32) : SIM b (mX8_stop F (some b) x) (mX9_stop F (some (b + 12)) x) σ := by
  obtain ⟨hX, hM, hJ, -⟩ := id h
  have k1 := hX.fK.1
  have k2 := hX.fK.2.1
  have e1 := e_findOrder hX hJ F x
  have t1 := t_isOrder hJ F x
  have hT : T 30 0 = nI (cM T) := hJ.M.1
  have hMn := hJ.nM
  have hO := hJ.nO
  by_cases c1 : 0 ≤ x ∧ x < T 17 0
  case neg =>
    rw [fd_none.mpr c1] at e1
    refine SIM.read (g := tX9_stop F x) (r := -1) h ?_ (fun hk => sX9_stop hk F x) ?_
    · unfold mX8_stop
      refine q_cl k1 e1 ?_
      refine q_t rfl ?_
      exact q_e
    · unfold tX9_stop
      refine r_st t1 ?_
      refine r_t (bi_z c1) ?_
      rfl
  obtain ⟨f1, f2⟩ := in_of hJ.O (by omega) c1
  have f3 : ix x < cO T := f2
  have hx : ix x < 200 := by omega
  rw [fd_some c1] at e1
  have ko := hX.k4 _ f3
  have o1 := hX.o1 _ f3
  by_cases c2 : T 27 (ix x) = 0
  case neg =>
    refine SIM.read (g := tX9_stop F x) (r := -1) h ?_ (fun hk => sX9_stop hk F x) ?_
    · unfold mX8_stop
      refine q_cl k1 e1 ?_
      refine q_f n_some ?_
      refine q_rI ko (hX.o10 _ f3) ?_
      refine q_f c2 ?_
      exact q_e
    · unfold tX9_stop
      refine r_st t1 ?_
      refine r_f (bi_n c1) ?_
      refine r_a f1 hx rfl ?_
      refine r_f c2 ?_
      rfl
  obtain ⟨j18, j19, -, -, -, jD⟩ := hJ.or _ f3
  have ew := e_hasWay hX hJ F j18.2 j19.2
  have ec := e_canWrite hX hJ F
  by_cases c3 : cM T < 1000
  case neg =>
    refine SIM.read (g := tX9_stop F x) (r := -1) h ?_ (fun hk => sX9_stop hk F x) ?_
    · unfold mX8_stop
      refine q_cl k1 e1 ?_
      refine q_f n_some ?_
      refine q_rI ko (hX.o10 _ f3) ?_
      refine q_t c2 ?_
      refine q_rR k1 hX.fR.1 ?_
      refine q_rR ko o1.1 ?_
      refine q_rR ko o1.2 ?_
      refine q_cl k2 ew ?_
      refine q_f (bi_n jD) ?_
      refine q_cl k1 ec ?_
      refine q_t (bi_z c3) ?_
      exact q_e
    · unfold tX9_stop
      refine r_st t1 ?_
      refine r_f (bi_n c1) ?_
      refine r_a f1 hx rfl ?_
      refine r_t c2 ?_
      refine r_g hT ?_
      refine r_t (by rw [show cM T = 1000 by omega]; rfl) ?_
      rfl
  have u := h.x.u27 (j := ix x) f3 1
  obtain ⟨σ', ad', T', Q', w1, w2, w3, -⟩ := u.write (by omega) hF (kd := 1) (o := ix x) f3 (f := T 18 (ix x)) (t := T 19 (ix x)) (Or.inl ⟨Or.inr rfl, rfl, rfl⟩)
  have c3' : cM (x_up T 27 (ix x) 1) < 1000 := c3
  rw [if_pos c3', ← f1] at w2
  refine SIM.write (g := tX9_stop F x) (r := nI (cM T)) w3 ?_ (fun hk => sX9_stop hk F x) ?_
  · unfold mX8_stop
    refine q_cl k1 e1 ?_
    refine q_f n_some ?_
    refine q_rI ko (hX.o10 _ f3) ?_
    refine q_t c2 ?_
    refine q_rR k1 hX.fR.1 ?_
    refine q_rR ko o1.1 ?_
    refine q_rR ko o1.2 ?_
    refine q_cl k2 ew ?_
    refine q_f (bi_n jD) ?_
    refine q_cl k1 ec ?_
    refine q_f (bi_n c3) ?_
    refine q_rI k1 (hX.z805.trans hT) ?_
    refine q_wZ ko ?_
    refine q_cl k1 w1 ?_
    exact q_e
  · unfold tX9_stop
    refine r_st t1 ?_
    refine r_f (bi_n c1) ?_
    refine r_a f1 hx rfl ?_
    refine r_t c2 ?_
    refine r_g hT ?_
    refine r_f (fun q => by have := congrArg ix q; rw [ix_nI (by omega)] at this; have e : ix (1000 : Int32) = 1000 := rfl; omega) ?_
    refine r_z f1 hx ?_
    refine r_a f1 hx rfl ?_
    refine r_a f1 hx rfl ?_
    refine r_st w2 ?_
    rfl
/-! a new order -/
def tO (T : Tb) (f t sm wd fe : Int32) : Tb := x_up (x_up (x_up (x_up (x_up (x_up (x_up T 18 (cO T) f) 19 (cO T) t) 20 (cO T) sm) 21 (cO T) wd) 22 (cO T) fe) 28 (cO T) (-1)) 17 0 (nI (cO T + 1))
theorem RX.newO (h : RX b ad T Q σ) (hJ : JT s T) (hn : cO T < 200) {a : Nat} {f t sm wd fe : Int32} (ha : ∀ i, i < cO T → ad 4 i ≠ a) (g0 : x_K σ a = 5) (g1 : x_I σ 400 a = nI (cO T)) (g2 : x_R σ 401 a = some (ad 1 (ix f))) (g3 : x_R σ 402 a = some (ad 1 (ix t))) (g4 : x_I σ 403 a = sm) (g5 : x_I σ 404 a = wd) (g6 : x_I σ 405 a = fe) (g7 : ∀ c, 406 ≤ c → c ≤ 410 → x_I σ c a = 0) (g8 : x_I σ 411 a = -1) (g9 : x_I σ 412 a = 0) : RX b (x_up ad 4 (cO T) a) (tO T f t sm wd fe) Q (x_uI (x_uQ σ (b + 10) (cO T) (some a)) 804 b (nI (cO T + 1))) := by
  have eO : cO (tO T f t sm wd fe) = cO T + 1 := ix_nI (by omega)
  have uu : ∀ i, i < cO T → x_up ad 4 (cO T) a 4 i = ad 4 i := fun i hi => up_lt hi
  have u0 : x_up ad 4 (cO T) a 4 (cO T) = a := x_up_s _ _ _ _
  have hMe := hJ.me
  obtain ⟨z23, z24, z25, z26, z27, z29⟩ := hJ.fO (cO T) (Nat.le_refl _)
  obtain ⟨hfK, hfL, hfR, hwf, hk1, hk2, hk4, hk5, hk7, hk6, hkd, hj1, hj2, hj4, hj5, hj7, hj6, hjd, hc0, hc1, hc2, hc3, hc4, hc5, hw0, hw2, hw3, hw4, hq0, hq2, hq3, hq4, hqn, hqz, ho0, ho1, ho3, ho4, ho5, ho6, ho7, ho8, ho9, ho10, ho11, ho12, hm0, hm1, hm2, hm3, hm4, hm5, hm6, hm7, hm8, hm9, hs0, hs2, hs3, hs1, hsd, hz804, hz805, hz806, hz808, hz809, hz810, hz300, hz301, hz2, ha1, ha7, ha4, ha2, hab, haf, hal⟩ := h
  exact ⟨hfK, hfL, hfR, hwf, hk1, hk2, (new_at (g := x_K σ) (t := fun _ => 5) (t' := fun _ => 5) eO hk4 uu (fun _ _ => rfl) (by rw [u0]; exact g0)), hk5, hk7, hk6, hkd, hj1, hj2, (new_j eO hj4 uu u0 ha), hj5, hj7, hj6, hjd, hc0, hc1, hc2, hc3, hc4, hc5, hw0, hw2, hw3, hw4, hq0, hq2, hq3, hq4, hqn, hqz, (new_at (g := x_I σ 400) eO ho0 uu (fun _ _ => rfl) (by rw [u0]; exact g1)), (fun i hi => by
    have hi' : i < cO T + 1 := by rw [← eO]; exact hi
    show x_R σ 401 (x_up ad 4 (cO T) a 4 i) = some (ad 1 (ix (x_up T 18 (cO T) f 18 i))) ∧ x_R σ 402 (x_up ad 4 (cO T) a 4 i) = some (ad 1 (ix (x_up T 19 (cO T) t 19 i)))
    by_cases e : i = cO T
    · rw [e, u0, x_up_s, x_up_s]; exact ⟨g2, g3⟩
    · have e' : i < cO T := by omega
      rw [uu i e', up_lt e', up_lt e']; exact ho1 i e'), (new_at (g := x_I σ 403) (t' := fun i => tO T f t sm wd fe 20 i) eO ho3 uu (fun i hi => (up_lt hi : x_up T 20 (cO T) sm 20 i = T 20 i)) (by rw [u0]; exact g4.trans (x_up_s T 20 (cO T) sm).symm)), (new_at (g := x_I σ 404) (t' := fun i => tO T f t sm wd fe 21 i) eO ho4 uu (fun i hi => (up_lt hi : x_up T 21 (cO T) wd 21 i = T 21 i)) (by rw [u0]; exact g5.trans (x_up_s T 21 (cO T) wd).symm)), (new_at (g := x_I σ 405) (t' := fun i => tO T f t sm wd fe 22 i) eO ho5 uu (fun i hi => (up_lt hi : x_up T 22 (cO T) fe 22 i = T 22 i)) (by rw [u0]; exact g6.trans (x_up_s T 22 (cO T) fe).symm)), (new_at (g := x_I σ 406) (t' := fun i => tO T f t sm wd fe 23 i) eO ho6 uu (fun _ _ => rfl) (by rw [u0]; exact (g7 406 (by omega) (by omega)).trans z23.symm)), (new_at (g := x_I σ 407) (t' := fun i => tO T f t sm wd fe 24 i) eO ho7 uu (fun _ _ => rfl) (by rw [u0]; exact (g7 407 (by omega) (by omega)).trans z24.symm)), (new_at (g := x_I σ 408) (t' := fun i => tO T f t sm wd fe 25 i) eO ho8 uu (fun _ _ => rfl) (by rw [u0]; exact (g7 408 (by omega) (by omega)).trans z25.symm)), (new_at (g := x_I σ 409) (t' := fun i => tO T f t sm wd fe 26 i) eO ho9 uu (fun _ _ => rfl) (by rw [u0]; exact (g7 409 (by omega) (by omega)).trans z26.symm)), (new_at (g := x_I σ 410) (t' := fun i => tO T f t sm wd fe 27 i) eO ho10 uu (fun _ _ => rfl) (by rw [u0]; exact (g7 410 (by omega) (by omega)).trans z27.symm)), (new_at (g := x_I σ 411) (t' := fun i => tO T f t sm wd fe 28 i) eO ho11 uu (fun i hi => (up_lt hi : x_up T 28 (cO T) (-1) 28 i = T 28 i)) (by rw [u0]; exact g8.trans (x_up_s T 28 (cO T) (-1)).symm)), (new_at (g := x_I σ 412) (t' := fun i => tO T f t sm wd fe 29 i) eO ho12 uu (fun _ _ => rfl) (by rw [u0]; exact g9.trans z29.symm)), hm0, (fun i hi => (hm1 i hi).trans (congrArg some (uu _ (hMe i hi).1.2).symm)), hm2, hm3, hm4, hm5, hm6, hm7, hm8, hm9, hs0, hs2, hs3, hs1, hsd, (by rw [I_uI, if_pos ⟨rfl, rfl⟩]; rfl), hz805, hz806, hz808, hz809, hz810, hz300, hz301, hz2, (fun i hi => by
    show (if b + 2 = b + 10 ∧ i = cO T then some a else x_Q σ (b + 2) i) = some (ad 1 i)
    rw [if_neg (by omega)]; exact ha1 i hi), (fun i hi => by
    show (if b + 3 = b + 10 ∧ i = cO T then some a else x_Q σ (b + 3) i) = some (ad 7 i)
    rw [if_neg (by omega)]; exact ha7 i hi), (fun i hi => by
    have hi' : i < cO T + 1 := by rw [← eO]; exact hi
    show (if b + 10 = b + 10 ∧ i = cO T then some a else x_Q σ (b + 10) i) = some (x_up ad 4 (cO T) a 4 i)
    by_cases e : i = cO T
    · rw [if_pos ⟨rfl, e⟩, e, u0]
    · rw [if_neg (fun q => e q.2), uu i (by omega)]; exact ha4 i (by omega)), (fun i hi => by
    show (if b + 11 = b + 10 ∧ i = cO T then some a else x_Q σ (b + 11) i) = some (ad 2 i)
    rw [if_neg (by omega)]; exact ha2 i hi), hab, haf, hal⟩
theorem JT.newO (h : JT s T) (hn : cO T < 200) {f t sm wd fe : Int32} (jf : isN f (cC T)) (jt : isN t (cC T)) (jne : ix f ≠ ix t) (jsm : isN sm 100000) (jwd : isN wd 10000) (jD : Dm T (ix f) (ix t) < 1000000) : JT s (tO T f t sm wd fe) := by
  have eO : cO (tO T f t sm wd fe) = cO T + 1 := ix_nI (by omega)
  have le : cO T ≤ cO (tO T f t sm wd fe) := by omega
  obtain ⟨hC, hW, hB, hO, hM, hnw, hpu, hop, hwi, hls, hdg, hrl, hsp, hor, hme, hmq, hmw, hmr, hfC, hfW, hfO, hfM, hkn⟩ := h
  exact ⟨hC, hW, hB, (isN.of (by omega) (by decide)), hM, hnw, hpu, hop, hwi, hls, hdg, hrl, hsp, (fun i hi => by
    have hi' : i < cO T + 1 := by rw [← eO]; exact hi
    show isN (x_up T 18 (cO T) f 18 i) (cC T) ∧ isN (x_up T 19 (cO T) t 19 i) (cC T) ∧ ix (x_up T 18 (cO T) f 18 i) ≠ ix (x_up T 19 (cO T) t 19 i) ∧ isN (x_up T 20 (cO T) sm 20 i) 100000 ∧ isN (x_up T 21 (cO T) wd 21 i) 10000 ∧ Dm T (ix (x_up T 18 (cO T) f 18 i)) (ix (x_up T 19 (cO T) t 19 i)) < 1000000
    by_cases e : i = cO T
    · rw [e, x_up_s, x_up_s, x_up_s, x_up_s]; exact ⟨jf, jt, jne, jsm, jwd, jD⟩
    · have e' : i < cO T := by omega
      rw [up_lt e', up_lt e', up_lt e', up_lt e']; exact hor i e'), (fun i hi => ⟨(hme i hi).1.mono le, (hme i hi).2⟩), hmq, hmw, hmr, hfC, hfW, (fun i hi => hfO i (by omega)), hfM, hkn⟩
theorem e_oinit (F : Nat) (n f t sm wd : Int32) (r1 r2 : Option Nat) (σ : PH) : ∃ σ1, x_rn (mX4_init F (some (x_N σ)) n r1 r2 sm wd) (x_nO σ 4) = some ((), σ1) ∧ ((∀ a, x_K σ a ≠ 0 → a < x_N σ) → FR (x_N σ) σ σ1) ∧ x_K σ1 (x_N σ) = 5 ∧ x_N σ1 = x_N σ + 1 ∧ x_U σ1 = x_U σ + 13 ∧ x_Q σ1 = x_Q σ ∧ x_I σ1 400 (x_N σ) = n ∧ x_R σ1 401 (x_N σ) = r1 ∧ x_R σ1 402 (x_N σ) = r2 ∧ x_I σ1 403 (x_N σ) = sm ∧ x_I σ1 404 (x_N σ) = wd ∧ (∀ c, 406 ≤ c → c ≤ 410 → x_I σ1 c (x_N σ) = 0) ∧ x_I σ1 411 (x_N σ) = -1 ∧ x_I σ1 412 (x_N σ) = 0 := by
  have kk : x_K (x_nO σ 4) (x_N σ) = 5 := by rw [K_nO, if_pos rfl]
  refine ⟨x_uI (x_uI (x_uI (x_uR (x_uR (x_uI (x_nO σ 4) 400 (x_N σ) n) 401 (x_N σ) r1) 402 (x_N σ) r2) 403 (x_N σ) sm) 404 (x_N σ) wd) 411 (x_N σ) (-1), ?_, fun hw => ?_, ?_, ?_, ?_, ?_, ?_, ?_, ?_, ?_, ?_, fun c h1 h2 => ?_, ?_, ?_⟩
  · unfold mX4_init
    refine q_wI kk ?_
    refine q_wR kk ?_
    refine q_wR kk ?_
    refine q_wI kk ?_
    refine q_wI kk ?_
    refine q_wI kk ?_
    exact q_e
  · exact (((((((FR.refl hw).nO 4).uI (a := x_N σ) (Nat.le_refl _) 400 n).uR (a := x_N σ) (Nat.le_refl _) 401 r1).uR (a := x_N σ) (Nat.le_refl _) 402 r2).uI (a := x_N σ) (Nat.le_refl _) 403 sm).uI (a := x_N σ) (Nat.le_refl _) 404 wd).uI (a := x_N σ) (Nat.le_refl _) 411 (-1)
  · rw [K_uI, K_uI, K_uI, K_uR, K_uR, K_uI]; exact kk
  · rw [N_uI, N_uI, N_uI, N_uR, N_uR, N_uI, N_nO]
  · rw [U_uI, U_uI, U_uI, U_uR, U_uR, U_uI, U_nO]; rfl
  · rw [Q_uI, Q_uI, Q_uI, Q_uR, Q_uR, Q_uI, Q_nO]
  · rw [I_uI, if_neg (by omega), I_uI, if_neg (by omega), I_uI, if_neg (by omega), I_uR, I_uR, I_uI, if_pos ⟨rfl, rfl⟩]
  · rw [R_uI, R_uI, R_uI, R_uR, if_neg (by omega), R_uR, if_pos ⟨rfl, rfl⟩]
  · rw [R_uI, R_uI, R_uI, R_uR, if_pos ⟨rfl, rfl⟩]
  · rw [I_uI, if_neg (by omega), I_uI, if_neg (by omega), I_uI, if_pos ⟨rfl, rfl⟩]
  · rw [I_uI, if_neg (by omega), I_uI, if_pos ⟨rfl, rfl⟩]
  · rw [I_uI, if_neg (by omega), I_uI, if_neg (by omega), I_uI, if_neg (by omega), I_uR, I_uR, I_uI, if_neg (by omega), I_nO, if_pos rfl]
  · rw [I_uI, if_pos ⟨rfl, rfl⟩]
  · rw [I_uI, if_neg (by omega), I_uI, if_neg (by omega), I_uI, if_neg (by omega), I_uR, I_uR, I_uI, if_neg (by omega), I_nO, if_pos rfl]
theorem INX.newO (h : INX s k b ad T Q T2 σ) (hn : cO T < 200) (F : Nat) {f t sm wd : Int32} (fe : Int32) (jf : isN f (cC T)) (jt : isN t (cC T)) (jne : ix f ≠ ix t) (jsm : isN sm 100000) (jwd : isN wd 10000) (jD : Dm T (ix f) (ix t) < 1000000) : ∃ σ1 ad', x_rn (mX4_init F (some (x_N σ)) (nI (cO T)) (some (ad 1 (ix f))) (some (ad 1 (ix t))) sm wd) (x_nO σ 4) = some ((), σ1) ∧ RX b ad T Q σ1 ∧ x_K σ1 (x_N σ) = 5 ∧ INX s k b ad' (tO T f t sm wd fe) Q T2 (x_uI (x_uQ (x_uI σ1 405 (x_N σ) fe) (b + 10) (cO T) (some (x_N σ))) 804 b (nI (cO T + 1))) ∧ ad' 1 = ad 1 ∧ ad' 4 (cO T) = x_N σ := by
  obtain ⟨hX, hM, hJ, hQ, hA, hY, hR⟩ := h
  obtain ⟨σ1, e1, fr, g0, gN, gU, gQ, g1, g2, g3, g4, g5, g7, g8, g9⟩ := e_oinit F (nI (cO T)) f t sm wd (some (ad 1 (ix f))) (some (ad 1 (ix t))) σ
  have fr1 := fr hX.wf
  have fr2 := fr1.uI (a := x_N σ) (Nat.le_refl _) 405 fe
  have X1 := hX.fr hQ.lt fr1
  have X2 := hX.fr hQ.lt fr2
  have X3 := X2.newO hJ hn (a := x_N σ) (f := f) (t := t) (sm := sm) (wd := wd) (fe := fe) (fun i hi q => by
      have := hX.wf _ (by rw [hX.k4 i hi]; decide)
      omega) g0 (by rw [I_uI, if_neg (by omega)]; exact g1) g2 g3 (by rw [I_uI, if_neg (by omega)]; exact g4) (by rw [I_uI, if_neg (by omega)]; exact g5) (by rw [I_uI, if_pos ⟨rfl, rfl⟩]) (fun c h1 h2 => by rw [I_uI, if_neg (by omega)]; exact g7 c h1 h2) (by rw [I_uI, if_neg (by omega)]; exact g8) (by rw [I_uI, if_neg (by omega)]; exact g9)
  have eO : cO (tO T f t sm wd fe) = cO T + 1 := ix_nI (by omega)
  obtain ⟨R1, R2, R3⟩ := hR
  refine ⟨σ1, _, e1, X1, g0, ⟨X3, ?_, hJ.newO hn jf jt jne jsm jwd jD, hQ, ?_, ?_, ?_⟩, rfl, x_up_s _ _ _ _⟩
  · exact ((hM.fr R1 fr2).uQ _ _ _).uI _ (by decide)
  · intro m hm hk hq
    show x_I σ1 807 b ≤ T 39 m
    rw [(fr1.1 b (by omega)).2.1 807]
    exact hA m hm hk hq
  · refine hY.cg rfl rfl rfl rfl rfl rfl (fun i => ⟨?_, ?_⟩)
    · show (if b + 5 = b + 10 ∧ i = cO T then some (x_N σ) else x_Q σ1 (b + 5) i) = _
      rw [if_neg (by omega), gQ]
    · show (if b + 6 = b + 10 ∧ i = cO T then some (x_N σ) else x_Q σ1 (b + 6) i) = _
      rw [if_neg (by omega), gQ]
  · refine ⟨?_, ?_, ?_⟩
    · show b + 53 ≤ x_N σ1
      omega
    · show x_N σ1 ≤ b + 53 + cC T + 3 * cW T + cO (tO T f t sm wd fe) + 3 * cM T
      omega
    · show x_U σ1 ≤ 40000 + 6 * cC T + 15 * cW T + 13 * cO (tO T f t sm wd fe) + 28 * cM T
      omega
end PO
