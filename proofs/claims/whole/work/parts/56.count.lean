section PN
variable {b : Nat} {ad : Ad} {T : Tb} {Q : Qs} {σ : PH} {s k : Nat}
theorem WY.cg {ad' : Ad} {T' : Tb} {σ' : PH} (h : WY b ad T σ) (h7 : T' 7 = T 7) (h8 : T' 8 = T 8) (h9 : T' 9 = T 9) (h10 : T' 10 = T 10) (h13 : T' 13 = T 13) (hA : ad' 7 = ad 7) (hQ : ∀ i, x_Q σ' (b + 5) i = x_Q σ (b + 5) i ∧ x_Q σ' (b + 6) i = x_Q σ (b + 6) i) : WY b ad' T' σ' := by
  have e : cW T' = cW T := by unfold cW; rw [h7]
  refine ⟨fun i j hi hj => ?_, fun i j hi hj => ?_⟩
  · rw [(hQ _).2, nwf_congr h8 h9 h10 h13, e, hA]; exact h.1 i j hi hj
  · rw [(hQ _).1, stf_congr h8 h9 h10, e, hA]; exact h.2 i j hi hj
theorem new_at {α : Type} {g : Nat → α} {u u' : Nat → Nat} {t t' : Nat → α} {n N : Nat} (hN : N = n + 1) (h : ∀ i, i < n → g (u i) = t i) (hu : ∀ i, i < n → u' i = u i) (ht : ∀ i, i < n → t' i = t i) (h0 : g (u' n) = t' n) : ∀ i, i < N → g (u' i) = t' i := by
  intro i hi
  subst hN
  by_cases e : i = n
  · subst e; exact h0
  · have q : i < n := by omega
    rw [hu i q, ht i q]; exact h i q
theorem up_lt {α : Type} {f : Nat → Nat → α} {c n : Nat} {v : α} {i : Nat} (h : i < n) : x_up f c n v c i = f c i := x_up_n f c n v (fun q => by omega)
theorem new_j {u u' : Nat → Nat} {n N a : Nat} (hN : N = n + 1) (h : ∀ i j, i < n → j < n → (u i = u j ↔ i = j)) (hu : ∀ i, i < n → u' i = u i) (h0 : u' n = a) (ha : ∀ i, i < n → u i ≠ a) : ∀ i j, i < N → j < N → (u' i = u' j ↔ i = j) := by
  intro i j hi hj
  subst hN
  by_cases e1 : i = n
  · by_cases e2 : j = n
    · subst e1; subst e2; simp
    · subst e1
      rw [h0, hu j (by omega)]
      exact ⟨fun q => absurd q.symm (ha j (by omega)), fun q => absurd q.symm e2⟩
  · by_cases e2 : j = n
    · subst e2
      rw [h0, hu i (by omega)]
      exact ⟨fun q => absurd q (ha i (by omega)), fun q => absurd q e1⟩
    · rw [hu i (by omega), hu j (by omega)]; exact h i j (by omega) (by omega)
theorem en_lt (hJ : JT s T) {k : Nat} (hk : k < 2 * cW T) : en T k < cC T := by
  unfold en
  have := hJ.wi (k / 2) (by omega)
  split
  · exact this.1.2
  · exact this.2.1.2
theorem sw_lt {n k : Nat} (hk : k < 2 * n) : sw k < 2 * n := by
  unfold sw; split <;> omega
def tC (T : Tb) (x y z : Int32) : Tb := x_up (x_up (x_up (x_up T 2 (cC T) x) 3 (cC T) y) 4 (cC T) z) 1 0 (nI (cC T + 1))
theorem RX.newC (h : RX b ad T Q σ) (hJ : JT s T) (hn : cC T < 10) {a : Nat} {x y z : Int32} (ha : ∀ i, i < cC T → ad 1 i ≠ a) (f0 : x_K σ a = 2) (f1 : x_I σ 100 a = nI (cC T)) (f2 : x_I σ 101 a = y) (f3 : x_I σ 102 a = z) (f4 : x_I σ 103 a = x) (f5 : x_I σ 104 a = 0) (f6 : x_I σ 105 a = 0) : RX b (x_up ad 1 (cC T) a) (tC T x y z) Q (x_uI (x_uQ σ (b + 2) (cC T) (some a)) 300 (b + 1) (nI (cC T + 1))) := by
  have hqq : ∀ k, k < 2 * cW T → en T k < cC T ∧ en T (sw k) < cC T := fun k hk => ⟨en_lt hJ hk, en_lt hJ (sw_lt hk)⟩
  have eC : cC (tC T x y z) = cC T + 1 := ix_nI (by omega)
  have uu : ∀ i, i < cC T → x_up ad 1 (cC T) a 1 i = ad 1 i := fun i hi => up_lt hi
  have u0 : x_up ad 1 (cC T) a 1 (cC T) = a := x_up_s _ _ _ _
  have hO := hJ.or
  have hMe := hJ.me
  have hf := hJ.fC (cC T) (Nat.le_refl _)
  obtain ⟨hfK, hfL, hfR, hwf, hk1, hk2, hk4, hk5, hk7, hk6, hkd, hj1, hj2, hj4, hj5, hj7, hj6, hjd, hc0, hc1, hc2, hc3, hc4, hc5, hw0, hw2, hw3, hw4, hq0, hq2, hq3, hq4, hqn, hqz, ho0, ho1, ho3, ho4, ho5, ho6, ho7, ho8, ho9, ho10, ho11, ho12, hm0, hm1, hm2, hm3, hm4, hm5, hm6, hm7, hm8, hm9, hs0, hs2, hs3, hs1, hsd, hz804, hz805, hz806, hz808, hz809, hz810, hz300, hz301, hz2, ha1, ha7, ha4, ha2, hab, haf, hal⟩ := h
  exact ⟨hfK, hfL, hfR, hwf, (fun i hi => new_at (g := x_K σ) (t := fun _ => 2) (t' := fun _ => 2) eC hk1 uu (fun _ _ => rfl) (by rw [u0]; exact f0) i hi), hk2, hk4, hk5, hk7, hk6, hkd, (new_j eC hj1 uu u0 ha), hj2, hj4, hj5, hj7, hj6, hjd, (new_at (g := x_I σ 100) eC hc0 uu (fun _ _ => rfl) (by rw [u0]; exact f1)), (new_at (g := x_I σ 101) (t' := fun i => tC T x y z 3 i) eC hc1 uu (fun i hi => (up_lt hi : x_up T 3 (cC T) y 3 i = T 3 i)) (by rw [u0]; exact f2.trans (x_up_s T 3 (cC T) y).symm)), (new_at (g := x_I σ 102) (t' := fun i => tC T x y z 4 i) eC hc2 uu (fun i hi => (up_lt hi : x_up T 4 (cC T) z 4 i = T 4 i)) (by rw [u0]; exact f3.trans (x_up_s T 4 (cC T) z).symm)), (new_at (g := x_I σ 103) (t' := fun i => tC T x y z 2 i) eC hc3 uu (fun i hi => (up_lt hi : x_up T 2 (cC T) x 2 i = T 2 i)) (by rw [u0]; exact f4.trans (x_up_s T 2 (cC T) x).symm)), (new_at (g := x_I σ 104) (t' := fun i => tC T x y z 6 i) eC hc4 uu (fun i hi => rfl) (by rw [u0]; exact f5.trans hf.2.symm)), (new_at (g := x_I σ 105) (t' := fun i => tC T x y z 5 i) eC hc5 uu (fun i hi => rfl) (by rw [u0]; exact f6.trans hf.1.symm)), hw0, hw2, hw3, hw4, (fun k hk => ⟨(hq0 k hk).1.trans (congrArg some (uu _ (hqq k hk).1).symm), (hq0 k hk).2.trans (congrArg some (uu _ (hqq k hk).2).symm)⟩), hq2, hq3, hq4, hqn, hqz, ho0, (fun i hi => ⟨(ho1 i hi).1.trans (congrArg some (uu _ (hO i hi).1.2).symm), (ho1 i hi).2.trans (congrArg some (uu _ (hO i hi).2.1.2).symm)⟩), ho3, ho4, ho5, ho6, ho7, ho8, ho9, ho10, ho11, ho12, hm0, hm1, (fun i hi => (hm2 i hi).trans (congrArg some (uu _ (hMe i hi).2.1.2).symm)), (fun i hi => (hm3 i hi).trans (congrArg some (uu _ (hMe i hi).2.2.1.2).symm)), hm4, (fun i hi => (hm5 i hi).trans (congrArg (fun w => if T 35 i = 1 then none else some w) (uu _ (hMe i hi).2.2.2.1.2).symm)), (fun i hi => (hm6 i hi).trans (congrArg (fun w => if T 35 i = 1 then some w else none) (uu _ (hMe i hi).2.2.2.1.2).symm)), hm7, hm8, hm9, hs0, hs2, hs3, hs1, hsd, hz804, hz805, hz806, hz808, hz809, hz810, (by rw [I_uI]; simp; rfl), hz301, hz2, (fun i hi => by
    have hi' : i < cC T + 1 := by rw [← eC]; exact hi
    show (if b + 2 = b + 2 ∧ i = cC T then some a else x_Q σ (b + 2) i) = some (x_up ad 1 (cC T) a 1 i)
    by_cases e : i = cC T
    · rw [if_pos ⟨rfl, e⟩, e, u0]
    · rw [if_neg (fun q => e q.2), uu i (by omega)]; exact ha1 i (by omega)), (fun i hi => by
    show (if b + 3 = b + 2 ∧ i = cC T then some a else x_Q σ (b + 3) i) = some (ad 7 i)
    rw [if_neg (by omega)]; exact ha7 i hi), (fun i hi => by
    show (if b + 10 = b + 2 ∧ i = cC T then some a else x_Q σ (b + 10) i) = some (ad 4 i)
    rw [if_neg (by omega)]; exact ha4 i hi), (fun i hi => by
    show (if b + 11 = b + 2 ∧ i = cC T then some a else x_Q σ (b + 11) i) = some (ad 2 i)
    rw [if_neg (by omega)]; exact ha2 i hi), hab, haf, hal⟩
theorem JT.newC (h : JT s T) (hn : cC T < 10) {x y z : Int32} (h1 : 1 ≤ z) (h2 : z ≤ 1440) : JT s (tC T x y z) := by
  have eC : cC (tC T x y z) = cC T + 1 := ix_nI (by omega)
  have le : cC T ≤ cC (tC T x y z) := by omega
  obtain ⟨hC, hW, hB, hO, hM, hnw, hpu, hop, hwi, hls, hdg, hrl, hsp, hor, hme, hmq, hmw, hmr, hfC, hfW, hfO, hfM, hkn⟩ := h
  exact ⟨(isN.of (by omega) (by decide)), hW, hB, hO, hM, hnw, hpu, (fun i hi => by
    show 1 ≤ x_up T 4 (cC T) z 4 i ∧ x_up T 4 (cC T) z 4 i ≤ 1440
    by_cases e : i = cC T
    · rw [e, x_up_s]; exact ⟨h1, h2⟩
    · rw [x_up_n _ _ _ _ (fun q => e q.2)]; exact hop i (by omega)), (fun w hw => ⟨(hwi w hw).1.mono le, (hwi w hw).2.1.mono le, (hwi w hw).2.2⟩), hls, hdg, hrl, hsp, (fun w hw => ⟨(hor w hw).1.mono le, (hor w hw).2.1.mono le, (hor w hw).2.2⟩), (fun w hw => ⟨(hme w hw).1, (hme w hw).2.1.mono le, (hme w hw).2.2.1.mono le, (hme w hw).2.2.2.1.mono le, (hme w hw).2.2.2.2⟩), hmq, hmw, hmr, (fun i hi => hfC i (by omega)), hfW, hfO, hfM, hkn⟩
theorem JQ.lt (h : JQ T Q) : ∀ k, k < 2 * cW T → ∀ m, m ∈ Q k → m < cM T := fun k hk m hm => ((h.1 k hk m).mp hm).1
theorem e_addCounter {T2 : Tb} (h : INX s k b ad T Q T2 σ) (F : Nat) (hn : cC T < 10) {x y z : Int32} (h1 : 1 ≤ z) (h2 : z ≤ 1440) : ∃ σ' ad', x_rn (mX3_addCounter F (some (b + 1)) x y z) σ = some (nI (cC T), σ') ∧ INX s k b ad' (tC T x y z) Q T2 σ' := by
  obtain ⟨hX, hM, hJ, hQ, hA, hY, hR⟩ := h
  have k2 := hX.fK.2.1
  have k3 := hX.fK.2.2.1
  have l2 := hX.fL.1
  have r5 := hX.fR.2.2.2.2.1
  have z3 := hX.z300
  have hT : T 1 0 = nI (cC T) := hJ.C.1
  have B : b + 53 ≤ x_N σ := hR.1
  have fr := (((((FR.refl hX.wf).nO 1).uI (Nat.le_refl _) 100 (nI (cC T))).uI (Nat.le_refl _) 103 x).uI (Nat.le_refl _) 101 y).uI (Nat.le_refl _) 102 z
  have hX1 := hX.fr hQ.lt fr
  have hX2 := hX1.newC (a := x_N σ) (x := x) (y := y) (z := z) hJ hn (fun i hi q => by have := hX.wf _ (by rw [hX.k1 i hi]; decide); omega) (by simp [K_uI, K_nO]) (by simp [I_uI, I_nO]) (by simp [I_uI, I_nO]) (by simp [I_uI, I_nO]) (by simp [I_uI, I_nO]) (by simp [I_uI, I_nO]) (by simp [I_uI, I_nO])
  have hM1 := ((hM.fr B fr).uQ (b + 2) (cC T) (some (x_N σ))).uI (a := b + 1) (f := 300) (nI (cC T + 1)) (by decide)
  have eC : cC (tC T x y z) = cC T + 1 := ix_nI (by omega)
  refine ⟨_, _, ?_, hX2, hM1, hJ.newC hn h1 h2, hQ, ?_, ?_, ?_⟩
  · have ck1 : x_K (x_nO σ 1) (x_N σ) = 2 := by simp [K_nO]
    have ck2 : x_K (x_nO σ 1) (b + 1) = 4 := by rw [K_nO, if_neg (by omega)]; exact k2
    have ei : x_rn (mX1_init F (some (x_N σ)) (nI (cC T)) x y z) (x_nO σ 1) = some ((), x_uI (x_uI (x_uI (x_uI (x_nO σ 1) 100 (x_N σ) (nI (cC T))) 103 (x_N σ) x) 101 (x_N σ) y) 102 (x_N σ) z) := by
      unfold mX1_init
      refine q_wI ck1 ?_
      refine q_wI ck1 ?_
      refine q_wI ck1 ?_
      refine q_wI ck1 ?_
      exact q_e
    unfold mX3_addCounter
    refine q_rI k2 (z3.trans hT) ?_
    refine q_rR k2 r5 ?_
    refine q_aL k3 l2 ?_
    refine q_t (nI_lt hn (by decide)) ?_
    refine q_rR k2 r5 ?_
    refine q_mO ?_
    refine q_st ei ?_
    refine q_sQ rfl ((hX1.fK).2.2.1) ((hX1.fL).1) hn (by decide) (by simp [x_fit, K_uI, K_nO]) ?_
    refine q_rI (hX1.fK).2.1 (hX1.z300.trans hT) ?_
    refine q_wI (hX1.fK).2.1 ?_
    rw [nI_1]
    exact q_e
  · intro m hm hk hs
    have := hA m hm hk hs
    show x_I (x_nO σ 1) 807 b ≤ T 39 m
    rw [I_nO, if_neg (by omega)]
    exact this
  · refine hY.cg rfl rfl rfl rfl rfl rfl (fun i => ⟨?_, ?_⟩)
    · show (if b + 5 = b + 2 ∧ i = cC T then _ else x_Q σ (b + 5) i) = _
      rw [if_neg (by omega)]
    · show (if b + 6 = b + 2 ∧ i = cC T then _ else x_Q σ (b + 6) i) = _
      rw [if_neg (by omega)]
  · obtain ⟨g1, g2, g3⟩ := hR
    refine ⟨?_, ?_, ?_⟩
    · show b + 53 ≤ x_N σ + 1
      omega
    · show x_N σ + 1 ≤ b + 53 + cC (tC T x y z) + 3 * cW T + cO T + 3 * cM T
      omega
    · show x_U σ + 6 ≤ 40000 + 6 * cC (tC T x y z) + 15 * cW T + 13 * cO T + 28 * cM T
      omega
theorem p_counter (h : INV b ad T Q σ) (F : Nat) (x y z : Int32) : SIM b (mX8_counter F (some b) x y z) (mX9_counter F (some (b + 12)) x y z) σ := by
  obtain ⟨hX, hM, hJ, -⟩ := id h
  have k1 := hX.fK.1
  have k2 := hX.fK.2.1
  have r1 := hX.fR.1
  have hT : T 1 0 = nI (cC T) := hJ.C.1
  have hc := hJ.nC
  by_cases c1 : 0 ≤ x ∧ x ≤ 1000000
  case neg =>
    have e21 : ∀ t, x_rn (mX8_counter_21 F (some b) x y z t) σ = some (-1, σ) := by
      intro t
      unfold mX8_counter_21
      refine q_st (e_within _ _ _ _ _) ?_
      refine q_t (bi_z c1) ?_
      exact q_e
    refine SIM.read (g := tX9_counter F x y z) (r := -1) h ?_ (fun hk => sX9_counter hk F x y z) ?_
    · unfold mX8_counter
      simp only [rn_ite, e21, ite_self]
    · unfold tX9_counter
      refine r_st (t_in _ _ _ _ _) ?_
      refine r_t (bi_z c1) ?_
      rfl
  have lz : (0 : Int32).toInt = 0 := rfl
  have l14 : (1440 : Int32).toInt = 1440 := rfl
  by_cases c2 : 0 ≤ y ∧ y < z ∧ z ≤ 1440
  case neg =>
    have e21 : x_rn (mX8_counter_21 F (some b) x y z 0) σ = some (-1, σ) := by
      unfold mX8_counter_21
      refine q_st (e_within _ _ _ _ _) ?_
      refine q_f (bi_n c1) ?_
      refine q_t rfl ?_
      exact q_e
    refine SIM.read (g := tX9_counter F x y z) (r := -1) h ?_ (fun hk => sX9_counter hk F x y z) ?_
    · unfold mX8_counter
      by_cases d1 : y < 0
      · exact q_t d1 e21
      · refine q_f d1 ?_
        by_cases d2 : z ≤ y
        · exact q_t d2 e21
        · refine q_f d2 ?_
          by_cases d3 : 1440 < z
          · exact q_t d3 e21
          · exact absurd ⟨i_nlt.mp d1, i_nle.mp d2, i_nlt.mp d3⟩ c2
    · unfold tX9_counter
      refine r_st (t_in _ _ _ _ _) ?_
      refine r_f (bi_n c1) ?_
      refine r_st (t_in _ _ _ _ _) ?_
      by_cases d1 : 0 ≤ y ∧ y ≤ 1440
      · refine r_f (bi_n d1) ?_
        refine r_st (t_in _ _ _ _ _) ?_
        refine r_t (bi_z ?_) ?_
        · rintro ⟨q1, q2⟩
          refine c2 ⟨d1.1, ?_, q2⟩
          obtain ⟨d2, d3⟩ := d1
          have l1 : (1 : Int32).toInt = 1 := rfl
          rw [i_le, lz] at d2
          rw [i_le, l14] at d3
          rw [i_le, Int32.toInt_add, l1] at q1
          rw [i_lt]
          have : (y.toInt + 1).bmod (2 ^ 32) = y.toInt + 1 := by apply Int.bmod_eq_of_le <;> omega
          rw [this] at q1
          omega
        · rfl
      · refine r_t (bi_z d1) ?_
        rfl
  have d1 : ¬ y < 0 := i_nlt.mpr c2.1
  have d2 : ¬ z ≤ y := i_nle.mpr c2.2.1
  have d3 : ¬ 1440 < z := i_nlt.mpr c2.2.2
  have b1 : 0 ≤ y ∧ y ≤ 1440 := by
    refine ⟨c2.1, ?_⟩
    have := c2.2.1
    have q := c2.2.2
    rw [i_lt] at this
    rw [i_le] at q ⊢
    omega
  have b2 : y + 1 ≤ z ∧ z ≤ 1440 := by
    refine ⟨?_, c2.2.2⟩
    obtain ⟨d2, d3⟩ := b1
    have l1 : (1 : Int32).toInt = 1 := rfl
    rw [i_le, lz] at d2
    rw [i_le, l14] at d3
    have q := c2.2.1
    rw [i_lt] at q
    rw [i_le, Int32.toInt_add, l1]
    have : (y.toInt + 1).bmod (2 ^ 32) = y.toInt + 1 := by apply Int.bmod_eq_of_le <;> omega
    rw [this]
    omega
  have b3 : 1 ≤ z := by
    have q := c2.2.1
    have q2 := c2.1
    rw [i_lt] at q
    rw [i_le, lz] at q2
    rw [i_le]
    show (1 : Int) ≤ _
    omega
  by_cases c3 : cC T = 10
  · have ea : x_rn (mX3_addCounter F (some (b + 1)) x y z) σ = some (-1, σ) := by
      unfold mX3_addCounter
      refine q_rI k2 (hX.z300.trans hT) ?_
      refine q_rR k2 hX.fR.2.2.2.2.1 ?_
      refine q_aL hX.fK.2.2.1 hX.fL.1 ?_
      refine q_f (nI_nlt (by omega) (by omega)) ?_
      exact q_e
    refine SIM.read (g := tX9_counter F x y z) (r := -1) h ?_ (fun hk => sX9_counter hk F x y z) ?_
    · unfold mX8_counter
      refine q_f d1 ?_
      refine q_f d2 ?_
      refine q_f d3 ?_
      unfold mX8_counter_21
      refine q_st (e_within _ _ _ _ _) ?_
      refine q_f (bi_n c1) ?_
      refine q_f (by decide) ?_
      refine q_rR k1 r1 ?_
      refine q_cl k2 ea ?_
      exact q_e
    · unfold tX9_counter
      refine r_st (t_in _ _ _ _ _) ?_
      refine r_f (bi_n c1) ?_
      refine r_st (t_in _ _ _ _ _) ?_
      refine r_f (bi_n b1) ?_
      refine r_st (t_in _ _ _ _ _) ?_
      refine r_f (bi_n b2) ?_
      refine r_g rfl ?_
      refine r_t (by rw [hT, c3]; rfl) ?_
      rfl
  · have hn : cC T < 10 := by omega
    obtain ⟨σ', ad', ea, u⟩ := e_addCounter h.x F hn (x := x) (y := y) (z := z) b3 c2.2.2
    refine SIM.write (g := tX9_counter F x y z) (r := nI (cC T)) u ?_ (fun hk => sX9_counter hk F x y z) ?_
    · unfold mX8_counter
      refine q_f d1 ?_
      refine q_f d2 ?_
      refine q_f d3 ?_
      unfold mX8_counter_21
      refine q_st (e_within _ _ _ _ _) ?_
      refine q_f (bi_n c1) ?_
      refine q_f (by decide) ?_
      refine q_rR k1 r1 ?_
      refine q_cl k2 ea ?_
      exact q_e
    · unfold tX9_counter
      refine r_st (t_in _ _ _ _ _) ?_
      refine r_f (bi_n c1) ?_
      refine r_st (t_in _ _ _ _ _) ?_
      refine r_f (bi_n b1) ?_
      refine r_st (t_in _ _ _ _ _) ?_
      refine r_f (bi_n b2) ?_
      refine r_g hT ?_
      refine r_f (fun q => c3 (by have := congrArg ix q; rw [ix_nI (by omega)] at this; exact this)) ?_
      refine r_g hT ?_
      refine r_s rfl hn ?_
      refine r_g hT ?_
      refine r_s rfl hn ?_
      refine r_g hT ?_
      refine r_s rfl hn ?_
      refine r_g hT ?_
      refine r_p ?_
      refine r_g rfl ?_
      show some (x_up _ 1 0 (nI (cC T) + 1) 1 0 - 1, x_up _ 1 0 (nI (cC T) + 1)) = _
      rw [x_up_s, nI_1, nI_pred]
      rfl
end PN
