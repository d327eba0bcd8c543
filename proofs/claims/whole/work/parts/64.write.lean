section PWr
variable {b : Nat} {ad : Ad} {T T2 : Tb} {Q : Qs} {σ : PH} {s k : Nat}
theorem Dm_sym (h : JT s T) {i j : Nat} (hi : i < 10) (hj : j < 10) : Dm T i j = Dm T j i := h.lw.sym hi hj
theorem JT.newM (h : JT s T) (hs : s ≤ 1000) (hn : cM T < 1000) {kd f t dy te : Int32} {o w : Nat} {g : Nat → Int32} (ho : o < cO T) (hf : isN f (cC T)) (ht : isN t (cC T)) (hD : Dm T (ix f) (ix t) < 1000000) (hw : w < cW T) (he : ix (T 8 w) = ix f ∨ ix (T 9 w) = ix f) (hkd : kd = 0 ∨ kd = 1 ∨ kd = 2 ∨ kd = 3) : JT s (tq (tN T kd (nI o) f t dy te g) (cM T) f w) := by
  have hO := h.nO
  have hnow := h.nw.2
  have hcW := h.nW
  have e46 : T 46 0 + 1 = nI (ix (T 46 0) + 1) := by rw [← nI_1, ← h.pu.1]
  have b46 := h.pu.2
  have i46 : ix (T 46 0 + 1) = ix (T 46 0) + 1 := by rw [e46, ix_nI (by omega)]
  have eM : cM (tq (tN T kd (nI o) f t dy te g) (cM T) f w) = cM T + 1 := ix_nI (by omega)
  have lt1 : ∀ i, i < cM (tq (tN T kd (nI o) f t dy te g) (cM T) f w) → i = cM T ∨ i < cM T := fun i hi => by rw [eM] at hi; omega
  obtain ⟨hC, hW, hB, hO, hM, hnw, hpu, hop, hwi, hls, hdg, hrl, hsp, hor, hme, hmq, hmw, hmr, hfC, hfW, hfO, hfM, hkn⟩ := h
  exact ⟨hC, hW, hB, hO, (isN.of (by omega) (by decide)), hnw, (by
    show isN (T 46 0 + 1) (cM (tq (tN T kd (nI o) f t dy te g) (cM T) f w) + 1000 * ix (T 0 0) + s + 1)
    rw [eM, e46]; exact isN.of (by omega) (by omega)), hop, hwi, hls, hdg, hrl, hsp, hor, (fun i hi => by
    show isN (x_up T 32 (cM T) (nI o) 32 i) (cO T) ∧ isN (x_up T 33 (cM T) f 33 i) (cC T) ∧ isN (x_up T 34 (cM T) t 34 i) (cC T) ∧ isN (x_up T 36 (cM T) f 36 i) (cC T) ∧ isN (x_up T 38 (cM T) (T 46 0) 38 i) (ix (T 46 0 + 1)) ∧ (x_up T 35 (cM T) 0 35 i = 0 ∨ x_up T 35 (cM T) 0 35 i = 1 ∨ x_up T 35 (cM T) 0 35 i = 2)
    rw [i46]
    rcases lt1 i hi with e | e
    · rw [e, x_up_s, x_up_s, x_up_s, x_up_s, x_up_s, x_up_s]
      exact ⟨isN.of ho (by omega), hf, ht, hf, ⟨hpu.1, by omega⟩, Or.inl rfl⟩
    · rw [up_lt e, up_lt e, up_lt e, up_lt e, up_lt e, up_lt e]
      obtain ⟨g1, g2, g3, g4, g5, g6⟩ := hme i e
      exact ⟨g1, g2, g3, g4, g5.mono (by omega), g6⟩), (fun i hi hq => by
    have hq' : x_up T 35 (cM T) 0 35 i = 0 := hq
    show isN (x_up T 37 (cM T) (nI w) 37 i) (cW T) ∧ (ix (x_up T 36 (cM T) f 36 i) = ix (T 8 (ix (x_up T 37 (cM T) (nI w) 37 i))) ∨ ix (x_up T 36 (cM T) f 36 i) = ix (T 9 (ix (x_up T 37 (cM T) (nI w) 37 i))))
    rcases lt1 i hi with e | e
    · rw [e, x_up_s, x_up_s, ix_nI (by omega)]
      refine ⟨isN.of hw (by omega), ?_⟩
      rcases he with q | q
      · exact Or.inl q.symm
      · exact Or.inr q.symm
    · rw [up_lt e] at hq'
      rw [up_lt e, up_lt e]
      exact hmq i e hq'), (fun i hi hq => by
    have hq' : x_up T 35 (cM T) 0 35 i = 1 := hq
    rcases lt1 i hi with e | e
    · rw [e, x_up_s] at hq'; exact absurd hq' (by decide)
    · rw [up_lt e] at hq'; exact hmw i e hq'), (fun i hi => by
    show (x_up T 35 (cM T) 0 35 i ≠ 2 → Dm T (ix (x_up T 36 (cM T) f 36 i)) (ix (x_up T 34 (cM T) t 34 i)) < 1000000 ∧ x_up T 40 (cM T) (-1) 40 i = -1) ∧ (x_up T 35 (cM T) 0 35 i = 2 → x_up T 40 (cM T) (-1) 40 i ≠ -1)
    rcases lt1 i hi with e | e
    · rw [e, x_up_s, x_up_s, x_up_s, x_up_s]
      exact ⟨fun _ => ⟨hD, rfl⟩, fun q => absurd q (by decide)⟩
    · rw [up_lt e, up_lt e, up_lt e, up_lt e]; exact hmr i e), hfC, hfW, hfO, (fun i hi => hfM i (by rw [eM] at hi; omega)), (fun i hi => by
    show x_up T 31 (cM T) kd 31 i = 0 ∨ x_up T 31 (cM T) kd 31 i = 1 ∨ x_up T 31 (cM T) kd 31 i = 2 ∨ x_up T 31 (cM T) kd 31 i = 3
    rcases lt1 i hi with e | e
    · rw [e, x_up_s]; exact hkd
    · rw [up_lt e]; exact hkn i e)⟩
/-- what stands ready for a new message -/
def S6 (b : Nat) (ad : Ad) (T : Tb) (σ : PH) (a6 a10 : Nat) (kd dy te : Int32) (g : Nat → Int32) : Prop := kd = 0 → (∀ i, i < cM T → T 31 i = 0 → ad 6 i ≠ a6 ∧ ad 10 i ≠ a10) ∧ a6 < x_N σ ∧ a10 < x_N σ ∧ x_K σ a6 = 7 ∧ x_I σ 600 a6 = te ∧ x_I σ 602 a6 = dy ∧ x_I σ 603 a6 = 0 ∧ x_R σ 601 a6 = some a10 ∧ x_K σ a10 = 11 ∧ x_L σ a10 = 13 ∧ b + 53 ≤ a10 ∧ ∀ j, j < 13 → x_A σ a10 j = g j
theorem e_minit (h : RX b ad T Q σ) (F : Nat) {o : Nat} (ho : o < cO T) {kd gb f t : Int32} {r4 : Option Nat} (hft : (gb = 0 ∧ f = T 18 o ∧ t = T 19 o) ∨ (gb = 1 ∧ f = T 19 o ∧ t = T 18 o)) : x_rn (mX2_init F (some (x_N σ)) kd (some (ad 4 o)) gb r4) (x_nO σ 2) = some ((), x_uI (x_uI (x_uR (x_uR (x_uR (x_uR (x_uR (x_uI (x_nO σ 2) 200 (x_N σ) kd) 201 (x_N σ) (some (ad 4 o))) 202 (x_N σ) (some (ad 1 (ix f)))) 203 (x_N σ) (some (ad 1 (ix t)))) 204 (x_N σ) r4) 205 (x_N σ) (some (ad 1 (ix f)))) 207 (x_N σ) (-1)) 208 (x_N σ) (-1)) := by
  have kk : x_K (x_nO σ 2) (x_N σ) = 3 := by simp [K_nO]
  have ao : ad 4 o < x_N σ := h.wf _ (by rw [h.k4 o ho]; decide)
  have ko : x_K (x_nO σ 2) (ad 4 o) = 5 := by rw [K_nO, if_neg (by omega)]; exact h.k4 o ho
  have r1 : x_R (x_nO σ 2) 401 (ad 4 o) = some (ad 1 (ix (T 18 o))) := by rw [R_nO, if_neg (by omega)]; exact (h.o1 o ho).1
  have r2 : x_R (x_nO σ 2) 402 (ad 4 o) = some (ad 1 (ix (T 19 o))) := by rw [R_nO, if_neg (by omega)]; exact (h.o1 o ho).2
  unfold mX2_init
  rcases hft with ⟨rfl, rfl, rfl⟩ | ⟨rfl, rfl, rfl⟩
  · refine q_wI kk ?_
    refine q_wR kk ?_
    refine q_t rfl ?_
    refine q_rR ko r1 ?_
    unfold mX2_init_30
    refine q_wR kk ?_
    refine q_t rfl ?_
    refine q_rR ko r2 ?_
    unfold mX2_init_49
    refine q_wR (ci := 2) kk ?_
    refine q_wR (ci := 2) kk ?_
    refine q_rR (ci := 2) (v := some (ad 1 (ix (T 18 o)))) kk (x_up_s _ 202 _ _) ?_
    refine q_wR kk ?_
    refine q_wI kk ?_
    refine q_wI kk ?_
    exact q_e
  · refine q_wI kk ?_
    refine q_wR kk ?_
    refine q_f (by decide) ?_
    refine q_rR ko r2 ?_
    unfold mX2_init_30
    refine q_wR kk ?_
    refine q_f (by decide) ?_
    refine q_rR ko r1 ?_
    unfold mX2_init_49
    refine q_wR (ci := 2) kk ?_
    refine q_wR (ci := 2) kk ?_
    refine q_rR (ci := 2) (v := some (ad 1 (ix (T 19 o)))) kk (x_up_s _ 202 _ _) ?_
    refine q_wR kk ?_
    refine q_wI kk ?_
    refine q_wI kk ?_
    exact q_e
theorem e_minit' (hX : RX b ad T Q σ) (F : Nat) {o : Nat} (ho : o < cO T) {kd gb f t : Int32} {r4 : Option Nat} (hft : (gb = 0 ∧ f = T 18 o ∧ t = T 19 o) ∨ (gb = 1 ∧ f = T 19 o ∧ t = T 18 o)) : ∃ σ1, x_rn (mX2_init F (some (x_N σ)) kd (some (ad 4 o)) gb r4) (x_nO σ 2) = some ((), σ1) ∧ FR (x_N σ) σ σ1 ∧ x_K σ1 (x_N σ) = 3 ∧ x_N σ1 = x_N σ + 1 ∧ x_U σ1 = x_U σ + 11 ∧ x_Q σ1 = x_Q σ ∧ x_I σ1 200 (x_N σ) = kd ∧ x_R σ1 201 (x_N σ) = some (ad 4 o) ∧ x_R σ1 202 (x_N σ) = some (ad 1 (ix f)) ∧ x_R σ1 203 (x_N σ) = some (ad 1 (ix t)) ∧ x_R σ1 204 (x_N σ) = r4 ∧ x_R σ1 205 (x_N σ) = some (ad 1 (ix f)) ∧ x_R σ1 206 (x_N σ) = none ∧ x_I σ1 208 (x_N σ) = -1 ∧ x_I σ1 209 (x_N σ) = 0 ∧ x_R σ1 210 (x_N σ) = none := by
  refine ⟨_, e_minit hX F ho hft, ?_, ?_, ?_, ?_, ?_, ?_, ?_, ?_, ?_, ?_, ?_, ?_, ?_, ?_, ?_⟩
  · exact ((((((((FR.refl hX.wf).nO 2).uI (a := x_N σ) (Nat.le_refl _) 200 kd).uR (a := x_N σ) (Nat.le_refl _) 201 (some (ad 4 o))).uR (a := x_N σ) (Nat.le_refl _) 202 (some (ad 1 (ix f)))).uR (a := x_N σ) (Nat.le_refl _) 203 (some (ad 1 (ix t)))).uR (a := x_N σ) (Nat.le_refl _) 204 r4).uR (a := x_N σ) (Nat.le_refl _) 205 (some (ad 1 (ix f)))).uI (a := x_N σ) (Nat.le_refl _) 207 (-1) |>.uI (a := x_N σ) (Nat.le_refl _) 208 (-1)
  · rw [K_uI, K_uI, K_uR, K_uR, K_uR, K_uR, K_uR, K_uI, K_nO, if_pos rfl]
  · rw [N_uI, N_uI, N_uR, N_uR, N_uR, N_uR, N_uR, N_uI, N_nO]
  · rw [U_uI, U_uI, U_uR, U_uR, U_uR, U_uR, U_uR, U_uI, U_nO]; rfl
  · rw [Q_uI, Q_uI, Q_uR, Q_uR, Q_uR, Q_uR, Q_uR, Q_uI, Q_nO]
  · rw [I_uI, if_neg (by omega), I_uI, if_neg (by omega), I_uR, I_uR, I_uR, I_uR, I_uR, I_uI, if_pos ⟨rfl, rfl⟩]
  · rw [R_uI, R_uI, R_uR, if_neg (by omega), R_uR, if_neg (by omega), R_uR, if_neg (by omega), R_uR, if_neg (by omega), R_uR, if_pos ⟨rfl, rfl⟩]
  · rw [R_uI, R_uI, R_uR, if_neg (by omega), R_uR, if_neg (by omega), R_uR, if_neg (by omega), R_uR, if_pos ⟨rfl, rfl⟩]
  · rw [R_uI, R_uI, R_uR, if_neg (by omega), R_uR, if_neg (by omega), R_uR, if_pos ⟨rfl, rfl⟩]
  · rw [R_uI, R_uI, R_uR, if_neg (by omega), R_uR, if_pos ⟨rfl, rfl⟩]
  · rw [R_uI, R_uI, R_uR, if_pos ⟨rfl, rfl⟩]
  · rw [R_uI, R_uI, R_uR, if_neg (by omega), R_uR, if_neg (by omega), R_uR, if_neg (by omega), R_uR, if_neg (by omega), R_uR, if_neg (by omega), R_uI, R_nO, if_pos rfl]
  · rw [I_uI, if_pos ⟨rfl, rfl⟩]
  · rw [I_uI, if_neg (by omega), I_uI, if_neg (by omega), I_uR, I_uR, I_uR, I_uR, I_uR, I_uI, if_neg (by omega), I_nO, if_pos rfl]
  · rw [R_uI, R_uI, R_uR, if_neg (by omega), R_uR, if_neg (by omega), R_uR, if_neg (by omega), R_uR, if_neg (by omega), R_uR, if_neg (by omega), R_uI, R_nO, if_pos rfl]
theorem e_w59 (hX : RX b ad T Q σ) (hM : RM b T2 σ) (hJ : JT s T) (hQ : JQ T Q) (hA : NA b k T σ) (hY : WY b ad T σ) (hB : b + 53 ≤ x_N σ) (hN : x_N σ + 1 ≤ b + 53 + cC T + 3 * cW T + cO T + 3 * (cM T + 1)) (hU : x_U σ + 11 ≤ 40000 + 6 * cC T + 15 * cW T + 13 * cO T + 28 * (cM T + 1)) (hs : s ≤ 1000) (hn : cM T < 1000) (F : Nat) {o : Nat} (ho : o < cO T) {kd gb f t dy te : Int32} {g : Nat → Int32} {a6 a10 : Nat} (hft : (gb = 0 ∧ f = T 18 o ∧ t = T 19 o) ∨ (gb = 1 ∧ f = T 19 o ∧ t = T 18 o)) (hkd : kd = 0 ∨ kd = 1 ∨ kd = 2 ∨ kd = 3) (h6 : S6 b ad T σ a6 a10 kd dy te g) (h7 : ¬ kd = 0 → ∀ i, i < cM T → T 31 i = 0 → ad 6 i ≠ a6 ∧ ad 10 i ≠ a10) : ∃ σ' ad' w, x_rn (mX8_write_59 F (some b) kd (some (ad 4 o)) gb (if kd = 0 then some a6 else none)) σ = some ((), σ') ∧ INX s k b ad' (tq (tN T kd (nI o) f t dy te g) (cM T) f w) (qa Q (kq T w (ix f)) (cM T)) T2 σ' ∧ x_I σ' 807 b = x_I σ 807 b ∧ ad' 4 = ad 4 ∧ nwf T (ix f) (ix t) (cW T) = some w := by
  obtain ⟨j18, j19, jne, -, -, jD⟩ := hJ.or o ho
  have hC := hJ.nC
  have hO := hJ.nO
  have c18 := j18.2
  have c19 := j19.2
  have hf : isN f (cC T) ∧ isN t (cC T) ∧ ix f ≠ ix t ∧ Dm T (ix f) (ix t) < 1000000 := by
    rcases hft with ⟨-, rfl, rfl⟩ | ⟨-, rfl, rfl⟩
    · exact ⟨j18, j19, jne, jD⟩
    · exact ⟨j19, j18, Ne.symm jne, by rw [Dm_sym hJ (by omega) (by omega)]; exact jD⟩
  obtain ⟨if1, it1, hne, hD⟩ := hf
  have cf := if1.2
  have ct := it1.2
  obtain ⟨w, hw⟩ := way_ex hJ (i := ix f) (j := ix t) (by omega) (by omega) hne hD
  obtain ⟨wl, wc⟩ := nwf_some hw
  obtain ⟨ow, wo, -⟩ := cd_ot wc
  have wen : ix (T 8 w) = ix f ∨ ix (T 9 w) = ix f := by
    rcases ot_end wo with q | q
    · exact Or.inl q.1
    · exact Or.inr q.1
  obtain ⟨σ1, ei, fr, k2, nN, nU, qQ, m200, m201, m202, m203, m204, m205, m206, m208, m209, m210⟩ := e_minit' (kd := kd) (r4 := if kd = 0 then some a6 else none) hX F ho hft
  have X1 := hX.fr hQ.lt fr
  have nm : NM b ad T σ1 (x_N σ) a6 a10 kd (nI o) f t dy te g := by
    refine ⟨fun i hi q => ?_, fun i hi hq => ?_, k2, ?_, ?_, ?_, ?_, ?_, ?_, ?_, ?_, ?_, ?_, ?_⟩
    · have := hX.wf _ (by rw [hX.k2 i hi]; decide); omega
    · by_cases c0 : kd = 0
      · exact (h6 c0).1 i hi hq
      · exact h7 c0 i hi hq
    · exact m200
    · rw [ix_nI (by omega)]; exact m201
    · exact m202
    · exact m203
    · exact m204
    · exact m205
    · exact m206
    · exact m208
    · exact m209
    · exact m210
    · intro c0
      obtain ⟨-, l6, l10, r1, r2, r3, r4, r5, r6, r7, r8, r9⟩ := h6 c0
      obtain ⟨f1, f2, f3, -⟩ := fr.1 a6 l6
      obtain ⟨d1, -, -, d4, -, d6⟩ := fr.1 a10 l10
      exact ⟨f1.trans r1, (f2 _).trans r2, (f2 _).trans r3, (f2 _).trans r4, (f3 _).trans r5, d1.trans r6, d6.trans r7, r8, fun j hj => (d4 j).trans (r9 j hj)⟩
  have X2 := X1.newM hn hQ.lt (hJ.fM _ (Nat.le_refl _)) nm
  have hT : T 30 0 = nI (cM T) := hJ.M.1
  have A7 : x_up (x_up (x_up ad 2 (cM T) (x_N σ)) 6 (cM T) a6) 10 (cM T) a10 7 = ad 7 := rfl
  generalize hAd : x_up (x_up (x_up ad 2 (cM T) (x_N σ)) 6 (cM T) a6) 10 (cM T) a10 = ad' at X2 A7
  have V2 : ad' 2 (cM T) = x_N σ := by rw [← hAd]; exact x_up_s ad 2 (cM T) (x_N σ)
  have A4 : ad' 4 = ad 4 := by rw [← hAd]; rfl
  generalize hσ2 : x_uI (x_uQ σ1 (b + 11) (cM T) (some (x_N σ))) 805 b (nI (cM T + 1)) = σ2 at X2
  have eM : cM (tL T kd (nI o) f t dy te g) = cM T + 1 := ix_nI (by omega)
  have hY2 : WY b ad' (tL T kd (nI o) f t dy te g) σ2 := by
    refine hY.cg rfl rfl rfl rfl rfl A7 (fun i => ⟨?_, ?_⟩)
    · rw [← hσ2]
      show (if b + 5 = b + 11 ∧ i = cM T then some (x_N σ) else x_Q σ1 (b + 5) i) = _
      rw [if_neg (by omega), qQ]
    · rw [← hσ2]
      show (if b + 6 = b + 11 ∧ i = cM T then some (x_N σ) else x_Q σ1 (b + 6) i) = _
      rw [if_neg (by omega), qQ]
  have l36 : tL T kd (nI o) f t dy te g 36 (cM T) = f := x_up_s T 36 (cM T) f
  have l34 : tL T kd (nI o) f t dy te g 34 (cM T) = t := x_up_s T 34 (cM T) t
  have hw1 : nwf (tL T kd (nI o) f t dy te g) (ix (tL T kd (nI o) f t dy te g 36 (cM T))) (ix (tL T kd (nI o) f t dy te g 34 (cM T))) (cW (tL T kd (nI o) f t dy te g)) = some w := by
    rw [l36, l34]
    exact (nwf_congr (T := T) (T' := tL T kd (nI o) f t dy te g) rfl rfl rfl rfl _ _ _).trans hw
  have hmQ : ∀ x, x < 2 * cW T → cM T ∉ Q x := fun x hx q => by have := hQ.lt x hx _ q; omega
  have hkl : kq T w (ix f) < 2 * cW T := kq_lt wl
  have NT2 : NT (tL T kd (nI o) f t dy te g) := hJ.nt
  obtain ⟨σ3, e3, X3, S3⟩ := e_enqueue X2 hY2 NT2 F (m := cM T) (w := w) (by rw [eM]; omega) (x_up_s T 35 (cM T) 2) (by rw [l36]; exact cf) (by rw [l34]; exact ct) hw1 (by
    rw [l36]
    refine ⟨fun x hx i hi => ?_, hmQ, fun x hx hxk i hi => hQ.dis hJ.nt hx hkl hxk hi, hQ.nd hkl, fun i hi => ?_⟩
    · have := hQ.lt x hx i hi; rw [eM]; omega
    · have := hQ.lt _ hkl i hi
      exact (up_lt this : x_up T 35 (cM T) 2 35 i = T 35 i).trans ((hQ.1 _ hkl i).mp hi).2.1)
  rw [l36] at X3
  rw [V2] at e3
  have hi8 : x_I σ3 807 b = x_I σ 807 b := by
    rw [S3.2.2.2.1, ← hσ2]
    show x_I σ1 807 b = _
    exact (fr.1 b (by omega)).2.1 807
  refine ⟨σ3, ad', w, ?_, ⟨?_, ?_, hJ.newM hs hn ho if1 it1 hD wl wen hkd, ?_, ?_, ?_, ?_⟩, ?_, A4, hw⟩
  · unfold mX8_write_59
    refine q_mO ?_
    refine q_st ei ?_
    refine q_rR X1.fK.1 X1.fR.2.2.2.1 ?_
    refine q_rI X1.fK.1 (X1.z805.trans hT) ?_
    refine q_sQ rfl X1.fK.2.2.2.2.2.2.2.2.2.2.2 X1.fL.2.2.2.2.2.2.2.2 hn (by decide) (by simp [x_fit, k2]) ?_
    refine q_rI X1.fK.1 (X1.z805.trans hT) ?_
    refine q_wI X1.fK.1 ?_
    rw [nI_1]
    have e4 : x_uI (x_uQ σ1 (b + 11) (cM T) (some (x_N σ))) (100 * 8 + 5) b (nI (cM T + 1)) = σ2 := hσ2
    rw [e4]
    refine q_cl X2.fK.1 e3 ?_
    exact q_e
  · have X4 := ((X3.t37 (cM T) (nI w)).t38 (cM T) (T 46 0)).t46 0 (T 46 0 + 1)
    have e : tq (tN T kd (nI o) f t dy te g) (cM T) f w = x_up (x_up (x_up (x_up (tL T kd (nI o) f t dy te g) 35 (cM T) 0) 37 (cM T) (nI w)) 38 (cM T) (T 46 0)) 46 0 (T 46 0 + 1) := by
      unfold tq tL
      rw [x_up_comm (x_up (tN T kd (nI o) f t dy te g) 35 (cM T) 2) (i := 36) (j := cM T) (i' := 35) (j' := cM T) f 0 (by omega), x_up_up]
      rfl
    rw [e]
    exact X4
  · refine S3.2.2.2.2 b T2 ?_
    rw [← hσ2]
    exact ((hM.fr hB fr).uQ _ _ _).uI _ (by decide)
  · refine hQ.add (T' := tq (tN T kd (nI o) f t dy te g) (cM T) f w) (m := cM T) rfl (fun l hl => ?_) ?_ (fun l hl => ⟨?_, ?_, ?_, ?_⟩) (fun _ => rfl) hmQ hkl ?_ ?_ ?_ (fun w hw => (hJ.wi w hw).2.2.1) (fun l hl => ?_)
    · show l < ix (nI (cM T + 1)) ↔ l < cM T
      rw [ix_nI (by omega)]; omega
    · show cM T < ix (nI (cM T + 1))
      rw [ix_nI (by omega)]; omega
    · exact x_up_n T 35 (cM T) 0 (fun q => hl q.2)
    · exact x_up_n T 36 (cM T) f (fun q => hl q.2)
    · exact x_up_n T 37 (cM T) (nI w) (fun q => hl q.2)
    · exact x_up_n T 38 (cM T) (T 46 0) (fun q => hl q.2)
    · exact x_up_s T 35 (cM T) 0
    · show ix (x_up T 37 (cM T) (nI w) 37 (cM T)) = _
      have := hJ.nW
      rw [x_up_s, kq_d, ix_nI (by omega)]
    · show ix (x_up T 36 (cM T) f 36 (cM T)) = _
      rw [x_up_s, kq_en wen]
    · show _ < ix (x_up T 38 (cM T) (T 46 0) 38 (cM T))
      rw [x_up_s]
      exact ((hJ.me l ((hQ.1 _ hkl l).mp hl).1).2.2.2.2.1).2
  · intro i hi hik hq
    have hq' : x_up T 35 (cM T) 0 35 i = 1 := hq
    have e8 : x_I σ3 807 b = x_I σ 807 b := hi8
    rw [e8]
    by_cases e : i = cM T
    · rw [e, x_up_s] at hq'; exact absurd hq' (by decide)
    · rw [x_up_n _ _ _ _ (fun q => e q.2)] at hq'
      have hi' : i < cM T + 1 := by
        have : i < ix (nI (cM T + 1)) := hi
        rw [ix_nI (by omega)] at this; exact this
      exact hA i (by omega) hik hq'
  · refine hY2.congr rfl rfl rfl rfl rfl S3.1
  · refine ⟨?_, ?_, ?_⟩
    · rw [S3.2.1, ← hσ2]; show b + 53 ≤ x_N σ1; omega
    · rw [S3.2.1, ← hσ2]
      show x_N σ1 ≤ b + 53 + cC T + 3 * cW T + cO T + 3 * ix (nI (cM T + 1))
      rw [ix_nI (by omega)]; omega
    · rw [S3.2.2.1, ← hσ2]
      show x_U σ1 ≤ 40000 + 6 * cC T + 15 * cW T + 13 * cO T + 28 * ix (nI (cM T + 1))
      rw [ix_nI (by omega)]; omega
  · exact hi8
end PWr
