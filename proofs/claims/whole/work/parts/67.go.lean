section PGo
variable {b : Nat} {ad : Ad} {T T2 : Tb} {Q : Qs} {σ : PH} {s k : Nat}
theorem INX.kk (h : INX s k b ad T Q T2 σ) {k' : Nat} (hA : NA b k' T σ) : INX s k' b ad T Q T2 σ := by
  obtain ⟨h1, h2, h3, h4, -, h6, h7⟩ := h
  exact ⟨h1, h2, h3, h4, hA, h6, h7⟩
theorem INX.s1 (h : INX s k b ad T Q T2 σ) : INX (s + 1) k b ad T Q T2 σ := by
  obtain ⟨h1, h2, h3, h4, h5, h6, h7⟩ := h
  refine ⟨h1, h2, ?_, h4, h5, h6, h7⟩
  obtain ⟨hC, hW, hB, hO, hM, hnw, hpu, hop, hwi, hls, hdg, hrl, hsp, hor, hme, hmq, hmw, hmr, hfC, hfW, hfO, hfM, hkn⟩ := h3
  exact ⟨hC, hW, hB, hO, hM, hnw, (hpu.mono (by omega)), hop, hwi, hls, hdg, hrl, hsp, hor, hme, hmq, hmw, hmr, hfC, hfW, hfO, hfM, hkn⟩
theorem INX.set8 (h : INX s k b ad T Q T2 σ) {k' : Nat} (v : Int32) (hv : ∀ m, m < cM T → m < k' → T 35 m = 1 → v ≤ T 39 m) : INX s k' b ad T Q T2 (x_uI σ 807 b v) := by
  obtain ⟨h1, h2, h3, h4, h5, h6, h7⟩ := h
  refine ⟨h1.na b v, h2.uI v (by decide), h3, h4, fun m hm hk hq => ?_, h6.congr rfl rfl rfl rfl rfl rfl, h7⟩
  rw [I_uI, if_pos ⟨rfl, rfl⟩]
  exact hv m hm hk hq
theorem L_take {F N : Nat} (hF : 1000 < F) (hN : N ≤ 1000) : ∀ (l n n' i s : Nat) (ad : Ad) (T : Tb) (Q : Qs) (σ : PH), i + l = N → N ≤ cM T → (∀ m, N ≤ m → m < cM T → T 35 m ≠ 1) → l < n → l < n' → s ≤ i → INX s i b ad T Q T2 σ → T 0 0 < x_I σ 807 b → ∃ σ' ad' T' Q' s', x_rn (mX8_takeIn_25 F n (some b) (nI N) (nI i)) σ = some ((), σ') ∧ tX9_minute_7 F n' (nI N) (nI i) T = tX9_minute_80 F F (0 : Int32) T' ∧ INX s' 1000 b ad' T' Q' T2 σ' ∧ s' ≤ 1000 ∧ T' 0 0 = T 0 0 ∧ T 0 0 < x_I σ' 807 b := by
  intro l
  induction l with
  | zero =>
    intro n n' i s ad T Q σ hi hNc hnew hn hn' hs h hh
    obtain ⟨n, rfl⟩ : ∃ m, n = m + 1 := ⟨n - 1, by omega⟩
    obtain ⟨n', rfl⟩ : ∃ m, n' = m + 1 := ⟨n' - 1, by omega⟩
    have e : i = N := by omega
    subst e
    refine ⟨σ, ad, T, Q, s, ?_, ?_, h.kk (fun m hm _ hq => ?_), by omega, rfl, hh⟩
    · rw [mX8_takeIn_25]
      refine q_t (nI_le (Nat.le_refl _) (by omega)) ?_
      exact q_e
    · rw [tX9_minute_7]
      refine r_t (nI_le (Nat.le_refl _) (by omega)) ?_
      rfl
    · by_cases c : m < i
      · exact h.2.2.2.2.1 m hm c hq
      · exact absurd hq (hnew m (by omega) hm)
  | succ l ih =>
    intro n n' i s ad T Q σ hi hNc hnew hn hn' hs h hh
    obtain ⟨n, rfl⟩ : ∃ m, n = m + 1 := ⟨n - 1, by omega⟩
    obtain ⟨n', rfl⟩ : ∃ m, n' = m + 1 := ⟨n' - 1, by omega⟩
    have hJ := h.j
    have hX := h.fx
    have hA := h.2.2.2.2.1
    have hm : i < cM T := by omega
    have hm2 : i < 1000 := by omega
    have k1 := hX.fK.1
    have km := hX.k2 _ hm
    have e1 := e_findMessage hX hJ F (nI i)
    rw [fd_some (in_nI hJ.M (by omega) hm), ix_nI (by omega)] at e1
    have m6 := hX.m6 _ hm
    by_cases c1 : T 35 i = 1
    case neg =>
      rw [if_neg c1] at m6
      obtain ⟨σ', ad', T', Q', s', g1, g2, g3, g4, g5, g6⟩ := ih n n' (i + 1) s ad T Q σ (by omega) hNc hnew (by omega) (by omega) (by omega) (h.kk (fun m hm' hk hq => by
        by_cases c : m = i
        · exact absurd (c ▸ hq) c1
        · exact hA m hm' (by omega) hq)) hh
      refine ⟨σ', ad', T', Q', s', ?_, ?_, g3, g4, g5, g6⟩
      · rw [mX8_takeIn_25]
        refine q_f (nI_ge (by omega) (by omega)) ?_
        refine q_cl k1 e1 ?_
        refine q_f n_some ?_
        refine q_rR km m6 ?_
        refine q_t rfl ?_
        refine q_p ?_
        rw [nI_1]
        exact g1
      · rw [tX9_minute_7]
        refine r_f (nI_ge (by omega) (by omega)) ?_
        refine r_a rfl hm2 rfl ?_
        refine r_f c1 ?_
        refine r_q ?_
        rw [nI_1]
        exact g2
    rw [if_pos c1] at m6
    have m7 := hX.m7 _ hm c1
    obtain ⟨j39, jle⟩ := hJ.mw _ hm c1
    have n0 := hJ.nw
    have n0b := n0.2
    have j39b := j39.2
    by_cases c2 : T 39 i = T 0 0
    case neg =>
      have c2' : ¬ T 39 i ≤ T 0 0 := by
        intro q
        rw [i_le, j39.ti (by omega), n0.ti (by omega)] at q
        apply c2
        rw [j39.1, n0.1]
        congr 1
        omega
      have c2'' : T 0 0 < T 39 i := i_nle.mp c2'
      obtain ⟨σ', ad', T', Q', s', g1, g2, g3, g4, g5, g6⟩ := ih n n' (i + 1) s ad T Q (x_uI σ 807 b (x_min (x_I σ 807 b) (T 39 i))) (by omega) hNc hnew (by omega) (by omega) (by omega) (h.set8 _ (fun m hm' hk hq => by
        by_cases c : m = i
        · rw [c]; exact x_min_le.2
        · exact i_le_tr x_min_le.1 (hA m hm' (by omega) hq))) (by
        rw [I_uI, if_pos ⟨rfl, rfl⟩]
        exact lt_min hh c2'')
      refine ⟨σ', ad', T', Q', s', ?_, ?_, g3, g4, g5, g6⟩
      · rw [mX8_takeIn_25]
        refine q_f (nI_ge (by omega) (by omega)) ?_
        refine q_cl k1 e1 ?_
        refine q_f n_some ?_
        refine q_rR km m6 ?_
        refine q_f n_some ?_
        refine q_rI km m7 ?_
        refine q_rI k1 hX.z806 ?_
        refine q_f c2' ?_
        refine q_rI k1 rfl ?_
        refine q_rI km m7 ?_
        refine q_wI k1 ?_
        refine q_p ?_
        rw [nI_1]
        exact g1
      · rw [tX9_minute_7]
        refine r_f (nI_ge (by omega) (by omega)) ?_
        refine r_a rfl hm2 rfl ?_
        refine r_t c1 ?_
        refine r_a rfl hm2 rfl ?_
        refine r_g rfl ?_
        refine r_f c2 ?_
        refine r_q ?_
        rw [nI_1]
        exact g2
    have c2' : T 39 i ≤ T 0 0 := by rw [c2, i_le]; omega
    obtain ⟨-, -, j34, j36, -, -⟩ := hJ.me _ hm
    by_cases c3 : T 36 i = T 34 i
    · obtain ⟨σ1, σ2, ad2, U, Q2, r1, r2, r3, r4, r5, r6, r7⟩ := h.read (by omega) hF hm c1 c3
      obtain ⟨o0, o1, o2, o3, o4⟩ := r7
      have z0 : U 0 0 = T 0 0 := by rw [o0]
      obtain ⟨σ', ad', T', Q', s', g1, g2, g3, g4, g5, g6⟩ := ih n n' (i + 1) s ad2 U Q2 σ2 (by omega) (by omega) (fun m h1 h2 => by
        by_cases c : m < cM T
        · rw [o3 m (by omega) c]; exact hnew m h1 c
        · exact o4 m (by omega) h2) (by omega) (by omega) (by omega) (r5.kk (fun m hm' hk hq => by
        by_cases c : m = i
        · exact absurd (c ▸ hq) o2
        · exact r5.2.2.2.2.1 m hm' (by omega) hq)) (by rw [z0, r6]; exact hh)
      refine ⟨σ', ad', T', Q', s', ?_, ?_, g3, g4, g5.trans z0, by rw [← z0]; exact g6⟩
      · rw [mX8_takeIn_25]
        have m5 := r2.m5 _ hm
        rw [if_neg (by rw [x_up_s]; decide)] at m5
        refine q_f (nI_ge (by omega) (by omega)) ?_
        refine q_cl k1 e1 ?_
        refine q_f n_some ?_
        refine q_rR km m6 ?_
        refine q_f n_some ?_
        refine q_rI km m7 ?_
        refine q_rI k1 hX.z806 ?_
        refine q_t c2' ?_
        refine q_cl km r1 ?_
        refine q_rR (r2.k2 _ hm) m5 ?_
        refine q_rR (r2.k2 _ hm) (r2.m3 _ hm) ?_
        refine q_t (congrArg (fun v => some (ad 1 (ix v))) c3) ?_
        refine q_cl r2.fK.1 r3 ?_
        refine q_p ?_
        rw [nI_1]
        exact g1
      · rw [tX9_minute_7]
        refine r_f (nI_ge (by omega) (by omega)) ?_
        refine r_a rfl hm2 rfl ?_
        refine r_t c1 ?_
        refine r_a rfl hm2 rfl ?_
        refine r_g rfl ?_
        refine r_t c2 ?_
        refine r_a rfl hm2 rfl ?_
        refine r_a rfl hm2 rfl ?_
        refine r_t c3 ?_
        refine r_st r4 ?_
        refine r_q ?_
        rw [nI_1]
        exact g2
    · have c3' : ix (T 36 i) ≠ ix (T 34 i) := fun q => c3 (by rw [j36.1, j34.1, q])
      obtain ⟨σ1, σ2, w, r1, r2, r3, r4, r5, r6⟩ := h.requeue (by omega) (F := F) (by omega) hm c1 c3'
      have u35 : ∀ m, m ≠ i → tq T i (T 36 i) w 35 m = T 35 m := fun m hne => x_up_n T 35 i 0 (fun q => hne q.2)
      have v35 : tq T i (T 36 i) w 35 i = 0 := x_up_s T 35 i 0
      obtain ⟨σ', ad', T', Q', s', g1, g2, g3, g4, g5, g6⟩ := ih n n' (i + 1) (s + 1) ad (tq T i (T 36 i) w) _ σ2 (by omega) hNc (fun m h1 h2 => by
        rw [u35 m (by omega)]; exact hnew m h1 h2) (by omega) (by omega) (by omega) (r5.kk (fun m hm' hk hq => by
        by_cases c : m = i
        · rw [c, v35] at hq; exact absurd hq (by decide)
        · exact r5.2.2.2.2.1 m hm' (by omega) hq)) (by rw [r6]; exact hh)
      refine ⟨σ', ad', T', Q', s', ?_, ?_, g3, g4, g5, g6⟩
      · rw [mX8_takeIn_25]
        have m5 := r2.m5 _ hm
        rw [if_neg (by rw [x_up_s]; decide)] at m5
        refine q_f (nI_ge (by omega) (by omega)) ?_
        refine q_cl k1 e1 ?_
        refine q_f n_some ?_
        refine q_rR km m6 ?_
        refine q_f n_some ?_
        refine q_rI km m7 ?_
        refine q_rI k1 hX.z806 ?_
        refine q_t c2' ?_
        refine q_cl km r1 ?_
        refine q_rR (r2.k2 _ hm) m5 ?_
        refine q_rR (r2.k2 _ hm) (r2.m3 _ hm) ?_
        refine q_f (fun q => c3' ((hX.j1 _ _ j36.2 j34.2).mp (Option.some.inj q))) ?_
        refine q_cl r2.fK.1 r3 ?_
        refine q_p ?_
        rw [nI_1]
        exact g1
      · rw [tX9_minute_7]
        refine r_f (nI_ge (by omega) (by omega)) ?_
        refine r_a rfl hm2 rfl ?_
        refine r_t c1 ?_
        refine r_a rfl hm2 rfl ?_
        refine r_g rfl ?_
        refine r_t c2 ?_
        refine r_a rfl hm2 rfl ?_
        refine r_a rfl hm2 rfl ?_
        refine r_f c3 ?_
        refine r_a rfl hm2 rfl ?_
        refine r_st r4 ?_
        refine r_q ?_
        rw [nI_1]
        exact g2
theorem t_skip (hM : cM T ≤ 1000) (F : Nat) (hno : ∀ m, m < cM T → T 35 m = 1 → T 39 m ≠ T 0 0) : ∀ (l n i : Nat), i + l = cM T → l < n → tX9_minute_7 F n (nI (cM T)) (nI i) T = tX9_minute_80 F F (0 : Int32) T := by
  intro l
  induction l with
  | zero =>
    intro n i hi hn
    obtain ⟨n, rfl⟩ : ∃ m, n = m + 1 := ⟨n - 1, by omega⟩
    have e : i = cM T := by omega
    subst e
    rw [tX9_minute_7]
    refine r_t (nI_le (Nat.le_refl _) (by omega)) ?_
    rfl
  | succ l ih =>
    intro n i hi hn
    obtain ⟨n, rfl⟩ : ∃ m, n = m + 1 := ⟨n - 1, by omega⟩
    have hm2 : i < 1000 := by omega
    have g := ih n (i + 1) (by omega) (by omega)
    rw [tX9_minute_7]
    refine r_f (nI_ge (by omega) (by omega)) ?_
    refine r_a rfl hm2 rfl ?_
    by_cases c : T 35 i = 1
    · refine r_t c ?_
      refine r_a rfl hm2 rfl ?_
      refine r_g rfl ?_
      refine r_f (hno i (by omega) c) ?_
      refine r_q ?_
      rw [nI_1]
      exact g
    · refine r_f c ?_
      refine r_q ?_
      rw [nI_1]
      exact g
/-- a minute of both -/
theorem INX.minute (h : INX 0 1000 b ad T Q T2 σ) {F : Nat} (hF : 1000 < F) (hnow : ix (T 0 0) < 20000) : ∃ σ1 σ2 ad' T' Q', x_rn (mX8_takeIn F (some b)) σ = some ((), σ1) ∧ x_K σ1 b = 9 ∧ x_rn (mX8_sendOut F (some b)) σ1 = some ((), σ2) ∧ x_K σ2 b = 9 ∧ tX9_minute F T = some ((), T') ∧ INX 0 1000 b ad' T' Q' T2 (x_uI σ2 806 b (T 0 0 + 1)) ∧ T' 0 0 = T 0 0 + 1 := by
  have hJ := h.j
  have hX := h.fx
  have hM := hJ.nM
  have k1 := hX.fK.1
  have hT : T 30 0 = nI (cM T) := hJ.M.1
  obtain ⟨σ1, ad1, T1, Q1, s1, e1, m1, h1, hs1, z1, hn1⟩ : ∃ σ1 ad1 T1 Q1 s1, x_rn (mX8_takeIn F (some b)) σ = some ((), σ1) ∧ tX9_minute F T = tX9_minute_80 F F (0 : Int32) T1 ∧ INX s1 1000 b ad1 T1 Q1 T2 σ1 ∧ s1 ≤ 1000 ∧ T1 0 0 = T 0 0 ∧ T 0 0 < x_I σ1 807 b := by
    by_cases c : x_I σ 807 b ≤ T 0 0
    · have l8 : T 0 0 < (1000000 : Int32) := by
        rw [i_lt, hJ.nw.ti (by omega)]
        show (_ : Int) < 1000000
        omega
      obtain ⟨σ', ad', T', Q', s', g1, g2, g3, g4, g5, g6⟩ := L_take (b := b) (T2 := T2) hF hM (cM T) F F 0 0 ad T Q (x_uI σ 807 b (1000000 : Int32)) (by omega) (Nat.le_refl _) (fun m h1 h2 => by omega) (by omega) (by omega) (Nat.le_refl _) (h.set8 _ (fun m _ hk _ => by omega)) (by rw [I_uI, if_pos ⟨rfl, rfl⟩]; exact l8)
      refine ⟨σ', ad', T', Q', s', ?_, ?_, g3, g4, g5, g6⟩
      · unfold mX8_takeIn
        refine q_rI k1 hX.z806 ?_
        refine q_rI k1 rfl ?_
        refine q_t c ?_
        refine q_wI k1 ?_
        refine q_rI k1 (hX.z805.trans hT) ?_
        exact g1
      · unfold tX9_minute
        refine r_g hT ?_
        exact g2
    · have c' := i_nle.mp c
      refine ⟨σ, ad, T, Q, 0, ?_, ?_, h, by omega, rfl, c'⟩
      · unfold mX8_takeIn
        refine q_rI k1 hX.z806 ?_
        refine q_rI k1 rfl ?_
        refine q_f c ?_
        exact q_e
      · unfold tX9_minute
        refine r_g hT ?_
        refine t_skip hM F (fun m hm hq e => ?_) (cM T) F 0 (by omega) (by omega)
        have := h.2.2.2.2.1 m hm (by omega) hq
        rw [e] at this
        exact c this
  have hn1' : T1 0 0 < x_I σ1 807 b := by rw [z1]; exact hn1
  have hW := h1.j.nW
  obtain ⟨σ2, T', Q', g1, g2, g3, g4, g5⟩ := L_send (b := b) (T2 := T2) (s := s1) (k := 1000) (ad := ad1) hs1 hF (cW T1) F F 0 T1 Q1 σ1 (by omega) (by omega) (by omega) h1 hn1'
  have z2 : T' 0 0 = T 0 0 := g5.trans z1
  have tk := g3.tick hs1 (by rw [z2]; exact hnow) (by rw [g5]; exact g4)
  rw [z2] at tk
  refine ⟨σ1, σ2, ad1, _, Q', e1, h1.fx.fK.1, g1, g3.fx.fK.1, ?_, tk, x_up_s _ _ _ _⟩
  rw [m1, ← z2]
  exact g2
theorem L_go {F E N' : Nat} (hF : 1000 < F) (hE : E ≤ 20000) (hN : N' ≤ 2000) : ∀ (R n1 n2 kk : Nat) (ad : Ad) (T : Tb) (Q : Qs) (σ : PH), ix (T 0 0) + R = E → kk + R ≤ N' → (kk + R = N' ∨ E = 20000) → R < n1 → R < n2 → INX 0 1000 b ad T Q T2 σ → ∃ σ' ad' T' Q', x_rn (mX8_go_31 F n1 (some b) (nI E) (T 0 0)) σ = some (nI E, σ') ∧ tX9_go_15 F n2 (nI N') (nI kk) T = some (nI E, T') ∧ INX 0 1000 b ad' T' Q' T2 σ' := by
  intro R
  induction R with
  | zero =>
    intro n1 n2 kk ad T Q σ hR h1 h2 hn1 hn2 h
    obtain ⟨n1, rfl⟩ : ∃ m, n1 = m + 1 := ⟨n1 - 1, by omega⟩
    obtain ⟨n2, rfl⟩ : ∃ m, n2 = m + 1 := ⟨n2 - 1, by omega⟩
    have hJ := h.j
    have hX := h.fx
    have eT : T 0 0 = nI E := by rw [hJ.nw.1]; congr 1
    refine ⟨σ, ad, T, Q, ?_, ?_, h⟩
    · rw [mX8_go_31, eT]
      refine q_t (nI_le (Nat.le_refl _) (by omega)) ?_
      refine q_rI hX.fK.1 (hX.z806.trans eT) ?_
      exact q_e
    · rw [tX9_go_15]
      by_cases c : N' ≤ kk
      · refine r_t (nI_le c (by omega)) ?_
        refine r_g eT ?_
        rfl
      · refine r_f (nI_ge (by omega) (by omega)) ?_
        refine r_g eT ?_
        refine r_t (nI_le (a := 20000) (by omega) (by omega)) ?_
        refine r_g eT ?_
        rfl
  | succ R ih =>
    intro n1 n2 kk ad T Q σ hR h1 h2 hn1 hn2 h
    obtain ⟨n1, rfl⟩ : ∃ m, n1 = m + 1 := ⟨n1 - 1, by omega⟩
    obtain ⟨n2, rfl⟩ : ∃ m, n2 = m + 1 := ⟨n2 - 1, by omega⟩
    have hJ := h.j
    have hX := h.fx
    have n0 := hJ.nw
    have hnow : ix (T 0 0) < 20000 := by omega
    obtain ⟨σ1, σ2, ad', T', Q', e1, ka, e2, kb, e3, g, z⟩ := h.minute hF hnow
    have eI : ix (T' 0 0) = ix (T 0 0) + 1 := by
      have : T 0 0 + 1 = nI (ix (T 0 0) + 1) := by rw [← nI_1, ← n0.1]
      rw [z, this, ix_nI (by omega)]
    obtain ⟨σ', ad'', T'', Q'', r1, r2, r3⟩ := ih n1 n2 (kk + 1) ad' T' Q' _ (by omega) (by omega) (by omega) (by omega) (by omega) g
    refine ⟨σ', ad'', T'', Q'', ?_, ?_, r3⟩
    · rw [mX8_go_31]
      refine q_f (by rw [n0.1]; exact nI_ge (by omega) (by omega)) ?_
      refine q_cl hX.fK.1 e1 ?_
      refine q_cl ka e2 ?_
      refine q_wI kb ?_
      refine q_p ?_
      rw [z] at r1
      exact r1
    · rw [tX9_go_15]
      refine r_f (nI_ge (by omega) (by omega)) ?_
      refine r_g rfl ?_
      refine r_f (by rw [n0.1]; exact nI_ge (b := 20000) hnow (by decide)) ?_
      refine r_st e3 ?_
      refine r_q ?_
      rw [nI_1]
      exact r2
theorem p_go (h : INV b ad T Q σ) {F : Nat} (hF : 3000 < F) (x : Int32) : SIM b (mX8_go F (some b) x) (mX9_go F (some (b + 12)) x) σ := by
  obtain ⟨hX, hM, hJ, -⟩ := id h
  have k1 := hX.fK.1
  have n0 := hJ.nw
  have n0b := n0.2
  by_cases c : 0 ≤ x ∧ x ≤ 2000
  case neg =>
    refine SIM.read (g := tX9_go F x) (r := -1) h ?_ (fun hk => sX9_go hk F x) ?_
    · unfold mX8_go
      refine q_st (e_within _ _ _ _ _) ?_
      refine q_t (bi_z c) ?_
      exact q_e
    · unfold tX9_go
      refine r_st (t_in _ _ _ _ _) ?_
      refine r_t (bi_z c) ?_
      rfl
  obtain ⟨N', hN, rfl⟩ : ∃ N', N' ≤ 2000 ∧ x = nI N' := nI_of2 (M := 2000) (n := 2000) rfl (i_nlt.mpr c.1) c.2
  have eE : x_min (T 0 0 + nI N') (20000 : Int32) = nI (min (ix (T 0 0) + N') 20000) := by
    have e1 : T 0 0 + nI N' = nI (ix (T 0 0) + N') := by rw [← nI_add, ← n0.1]
    rw [e1, show (20000 : Int32) = nI 20000 from rfl]
    unfold x_min
    by_cases d : 20000 < ix (T 0 0) + N'
    · rw [if_pos (nI_lt (a := 20000) d (by omega)), Nat.min_eq_right (by omega)]
    · rw [if_neg (nI_nlt (a := 20000) (b := ix (T 0 0) + N') (by omega) (by decide)), Nat.min_eq_left (by omega)]
  obtain ⟨σ', ad', T', Q', r1, r2, r3⟩ := L_go (b := b) (T2 := T) (F := F) (E := min (ix (T 0 0) + N') 20000) (N' := N') (by omega) (by omega) hN (min (ix (T 0 0) + N') 20000 - ix (T 0 0)) F F 0 ad T Q σ (by omega) (by omega) (by omega) (by omega) (by omega) h.x
  refine SIM.write (g := tX9_go F (nI N')) (r := nI (min (ix (T 0 0) + N') 20000)) r3 ?_ (fun hk => sX9_go hk F (nI N')) ?_
  · unfold mX8_go
    refine q_st (e_within _ _ _ _ _) ?_
    refine q_f (bi_n c) ?_
    refine q_rI k1 hX.z806 ?_
    refine q_p ?_
    refine q_rI k1 hX.z806 ?_
    rw [eE]
    exact r1
  · unfold tX9_go
    refine r_st (t_in _ _ _ _ _) ?_
    refine r_f (bi_n c) ?_
    exact r2
end PGo
