section PSg
variable {b : Nat} {ad : Ad} {T T2 : Tb} {Q : Qs} {σ : PH} {s k : Nat}
def tsm (g : Nat → Int32) (dy : Int32) : Nat → Int32
  | 0 => 0
  | i + 1 => tsm g dy i + g i * ((1 : Int32) + x_rem ((7 : Int32) * dy + (13 : Int32) * nI i) (96 : Int32))
theorem tsm_cg {g g' : Nat → Int32} {dy : Int32} : ∀ {n : Nat}, (∀ j, j < n → g j = g' j) → tsm g dy n = tsm g' dy n := by
  intro n
  induction n with
  | zero => intro _; rfl
  | succ n ih => intro h; simp only [tsm]; rw [ih (fun j hj => h j (by omega)), h n (by omega)]
theorem e_testL {a : Nat} {g : Nat → Int32} (hk : x_K σ a = 11) (hl : x_L σ a = 13) (hg : ∀ j, j < 13 → x_A σ a j = g j) (F : Nat) (dy : Int32) : ∀ (d n i : Nat), i + d = 13 → d < n → x_rn (mX6_testOf_4 F n (some a) dy (tsm g dy i) (nI i)) σ = some (x_rem (tsm g dy 13) (97 : Int32), σ) := by
  intro d
  induction d with
  | zero =>
    intro n i hi hn
    obtain ⟨n, rfl⟩ : ∃ m, n = m + 1 := ⟨n - 1, by omega⟩
    have : i = 13 := by omega
    subst this
    rw [mX6_testOf_4]
    refine q_aL (kd := 0) hk hl ?_
    refine q_t (nI_le (Nat.le_refl _) (by decide)) ?_
    exact q_e
  | succ d ih =>
    intro n i hi hn
    obtain ⟨n, rfl⟩ : ∃ m, n = m + 1 := ⟨n - 1, by omega⟩
    have e2 := ih n (i + 1) (by omega) (by omega)
    rw [mX6_testOf_4]
    refine q_aL (kd := 0) hk hl ?_
    refine q_f (nI_ge (by omega) (by decide)) ?_
    refine q_p ?_
    refine q_aI rfl hk hl (by omega) (by decide) (hg i (by omega)) ?_
    refine q_p ?_
    refine q_p ?_
    rw [nI_1]
    exact e2
theorem e_testOf {a : Nat} {g : Nat → Int32} (hk : x_K σ a = 11) (hl : x_L σ a = 13) (hg : ∀ j, j < 13 → x_A σ a j = g j) {F : Nat} (hF : 13 < F) (dy : Int32) : x_rn (mX6_testOf F (some a) dy) σ = some (x_rem (tsm g dy 13) (97 : Int32), σ) :=
  e_testL hk hl hg F dy 13 F 0 (by omega) hF
theorem t_testL {m : Nat} {g : Nat → Int32} {dy : Int32} (hm : m < 1000) (hd : T 44 m = dy) (hg : ∀ j, j < 13 → T 45 (13 * m + j) = g j) (F : Nat) : ∀ (d n i : Nat), i + d = 13 → d < n → tX9_testOf_4 F n (nI m) (tsm g dy i) (nI i) T = some (x_rem (tsm g dy 13) (97 : Int32), T) := by
  intro d
  induction d with
  | zero =>
    intro n i hi hn
    obtain ⟨n, rfl⟩ : ∃ m, n = m + 1 := ⟨n - 1, by omega⟩
    have : i = 13 := by omega
    subst this
    rw [tX9_testOf_4]
    refine r_t (nI_le (a := 13) (Nat.le_refl _) (by decide)) ?_
    rfl
  | succ d ih =>
    intro n i hi hn
    obtain ⟨n, rfl⟩ : ∃ m, n = m + 1 := ⟨n - 1, by omega⟩
    have e2 := ih n (i + 1) (by omega) (by omega)
    have h13 : 13 * m + i < 13000 := by omega
    rw [tX9_testOf_4]
    refine r_f (nI_ge (b := 13) (by omega) (by decide)) ?_
    refine r_a (nI13 m i) h13 (hg i (by omega)) ?_
    refine r_a rfl hm hd ?_
    refine r_st (v := (1 : Int32) + x_rem ((7 : Int32) * dy + (13 : Int32) * nI i) (96 : Int32)) (T' := T) rfl ?_
    refine r_q ?_
    refine r_q ?_
    rw [nI_1]
    exact e2
theorem t_testOf {m : Nat} {g : Nat → Int32} {dy : Int32} (hm : m < 1000) (hd : T 44 m = dy) (hg : ∀ j, j < 13 → T 45 (13 * m + j) = g j) {F : Nat} (hF : 13 < F) : tX9_testOf F (nI m) T = some (x_rem (tsm g dy 13) (97 : Int32), T) :=
  t_testL hm hd hg F 13 F 0 (by omega) hF
/-- only the digits and the test are written -/
def SG (a6 a10 : Nat) (σ σ' : PH) : Prop := x_K σ' = x_K σ ∧ x_R σ' = x_R σ ∧ x_L σ' = x_L σ ∧ x_N σ' = x_N σ ∧ x_U σ' = x_U σ ∧ x_Q σ' = x_Q σ ∧ (∀ f c, ¬ (f = 600 ∧ c = a6) → x_I σ' f c = x_I σ f c) ∧ (∀ c j, c ≠ a10 → x_A σ' c j = x_A σ c j)
theorem SG.fr {a6 a10 N : Nat} {σ0 σ σ' : PH} (h : SG a6 a10 σ σ') (f : FR N σ0 σ) (h6 : N ≤ a6) (h10 : N ≤ a10) : FR N σ0 σ' := by
  obtain ⟨g1, g2, g3, g4, g5, g6, g7, g8⟩ := h
  obtain ⟨f1, f2, f3⟩ := f
  refine ⟨fun a ha => ?_, fun a ha => ?_, by rw [g4]; exact f3⟩
  · obtain ⟨q1, q2, q3, q4, q5, q6⟩ := f1 a ha
    exact ⟨by rw [g1]; exact q1, fun f => (g7 f a (by omega)).trans (q2 f), fun f => by rw [g2]; exact q3 f, fun i => (g8 a i (by omega)).trans (q4 i), fun i => by rw [g6]; exact q5 i, by rw [g3]; exact q6⟩
  · rw [g4]; rw [g1] at ha; exact f2 a ha
theorem e_digL {a6 a10 : Nat} {F : Nat} (hF : 13 < F) (dy : Int32) : ∀ (d n N : Nat) (σ : PH), N < 10000000000000000 → d ≤ 13 → d < n → x_K σ a6 = 7 → x_R σ 601 a6 = some a10 → x_K σ a10 = 11 → x_L σ a10 = 13 → ∃ σ', x_rn (mX6_init_52 F n (some a6) dy (lN N) (nI d + (-1))) σ = some ((), σ') ∧ SG a6 a10 σ σ' ∧ (∀ j, j < 13 → x_A σ' a10 j = if j < d then nI (N / 10 ^ (d - 1 - j) % 10) else x_A σ a10 j) ∧ x_I σ' 600 a6 = x_rem (tsm (x_A σ' a10) dy 13) (97 : Int32) := by
  intro d
  induction d with
  | zero =>
    intro n N σ hN hd hn k6 r6 k10 l10
    obtain ⟨n, rfl⟩ : ∃ m, n = m + 1 := ⟨n - 1, by omega⟩
    have et := e_testOf k10 l10 (g := x_A σ a10) (fun _ _ => rfl) hF dy
    refine ⟨x_uI σ 600 a6 (x_rem (tsm (x_A σ a10) dy 13) (97 : Int32)), ?_, ⟨rfl, rfl, rfl, rfl, rfl, rfl, fun f c hc => if_neg hc, fun _ _ _ => rfl⟩, fun j _ => rfl, x_up_s _ _ _ _⟩
    rw [mX6_init_52]
    refine q_t (by decide) ?_
    refine q_rR k6 r6 ?_
    refine q_st et ?_
    refine q_wI k6 ?_
    exact q_e
  | succ d ih =>
    intro n N σ hN hd hn k6 r6 k10 l10
    obtain ⟨n, rfl⟩ : ∃ m, n = m + 1 := ⟨n - 1, by omega⟩
    have er : (x_lrem (lN N) (10 : Int64)).toInt32 = nI (N % 10) := by
      unfold x_lrem
      rw [show (10 : Int64) = lN 10 from rfl, pk_lRem (by omega) (by decide) (by decide), lN_i]
    have ed : lN N / (10 : Int64) = lN (N / 10) := by
      rw [show (10 : Int64) = lN 10 from rfl, pk_lDiv (by omega) (by decide) (by decide)]
    obtain ⟨σ', e1, S, A, I6⟩ := ih n (N / 10) (x_uA σ a10 d (nI (N % 10))) (by omega) (by omega) (by omega) k6 r6 k10 l10
    refine ⟨σ', ?_, ?_, fun j hj => ?_, I6⟩
    · rw [mX6_init_52, pk_m1]
      refine q_f (nI_pos (by omega)) ?_
      refine q_rR k6 r6 ?_
      refine q_sI rfl k10 l10 (by omega) (by decide) ?_
      refine q_p ?_
      refine q_p ?_
      rw [er, ed]
      exact e1
    · obtain ⟨g1, g2, g3, g4, g5, g6, g7, g8⟩ := S
      exact ⟨g1, g2, g3, g4, g5, g6, g7, fun c j hc => (g8 c j hc).trans (if_neg (fun q => hc q.1))⟩
    · rw [A j hj]
      by_cases c1 : j < d
      · rw [if_pos c1, if_pos (by omega), Nat.div_div_eq_div_mul]
        congr 2
        rw [show d + 1 - 1 - j = (d - 1 - j) + 1 by omega, Nat.pow_succ, Nat.mul_comm]
      · rw [if_neg c1]
        show (if a10 = a10 ∧ j = d then nI (N % 10) else x_A σ a10 j) = _
        by_cases c2 : j = d
        · subst c2
          rw [if_pos ⟨rfl, rfl⟩, if_pos (by omega), show j + 1 - 1 - j = 0 by omega, Nat.pow_zero, Nat.div_one]
        · rw [if_neg (fun q => c2 q.2), if_neg (by omega)]
def dN (T : Tb) (o : Nat) : Nat := (o * 100000 + ix (T 20 o)) * 10000 + ix (T 21 o)
def dgs (T : Tb) (o j : Nat) : Int32 := nI (dN T o / 10 ^ (12 - j) % 10)
theorem e_signs (h : RX b ad T Q σ) (hJ : JT s T) {F : Nat} (hF : 13 < F) {o : Nat} (ho : o < cO T) (dy : Int32) : ∃ σ', x_rn (mX6_init F (some (x_N σ)) (some (ad 4 o)) dy) (x_nO σ 6) = some ((), σ') ∧ FR (x_N σ) σ σ' ∧ x_N σ' = x_N σ + 2 ∧ x_U σ' = x_U σ + 17 ∧ x_Q σ' = x_Q (x_nA (x_nO σ 6) 0 13) ∧ x_K σ' (x_N σ) = 7 ∧ x_I σ' 600 (x_N σ) = x_rem (tsm (dgs T o) dy 13) (97 : Int32) ∧ x_I σ' 602 (x_N σ) = dy ∧ x_I σ' 603 (x_N σ) = 0 ∧ x_R σ' 601 (x_N σ) = some (x_N σ + 1) ∧ x_K σ' (x_N σ + 1) = 11 ∧ x_L σ' (x_N σ + 1) = 13 ∧ ∀ j, j < 13 → x_A σ' (x_N σ + 1) j = dgs T o j := by
  obtain ⟨-, -, -, j20, j21, -⟩ := hJ.or o ho
  have hO := hJ.nO
  have b20 := j20.2
  have b21 := j21.2
  have ao : ad 4 o < x_N σ := h.wf _ (by rw [h.k4 o ho]; decide)
  have f0 := ((((FR.refl h.wf).nO 6).uI (Nat.le_refl _) 602 dy).nA 0 13).uR (a := x_N σ) (Nat.le_refl _) 601 (some (x_N σ + 1))
  generalize hσ : x_uR (x_nA (x_uI (x_nO σ 6) 602 (x_N σ) dy) 0 13) 601 (x_N σ) (some (x_N σ + 1)) = σ1 at f0
  have k6 : x_K σ1 (x_N σ) = 7 := by rw [← hσ]; simp [K_uR, K_nA, K_uI, K_nO, N_uI, N_nO]
  have r6 : x_R σ1 601 (x_N σ) = some (x_N σ + 1) := by rw [← hσ]; simp [R_uR]
  have k10 : x_K σ1 (x_N σ + 1) = 11 := by rw [← hσ]; simp [K_uR, K_nA, K_uI, K_nO, N_uI, N_nO]
  have l10 : x_L σ1 (x_N σ + 1) = 13 := by rw [← hσ]; simp [L_uR, L_nA, N_uI, N_nO]
  have fo := f0.1 _ ao
  have ko : x_K σ1 (ad 4 o) = 5 := fo.1.trans (h.k4 o ho)
  obtain ⟨σ', e1, S, A, I6⟩ := e_digL (a6 := x_N σ) (a10 := x_N σ + 1) hF dy 13 F (dN T o) σ1 (by unfold dN; omega) (Nat.le_refl _) hF k6 r6 k10 l10
  have hA : ∀ j, j < 13 → x_A σ' (x_N σ + 1) j = dgs T o j := fun j hj => by
    rw [A j hj, if_pos hj]; rfl
  obtain ⟨g1, g2, g3, g4, g5, g6, g7, g8⟩ := S
  refine ⟨σ', ?_, SG.fr ⟨g1, g2, g3, g4, g5, g6, g7, g8⟩ f0 (Nat.le_refl _) (by omega), ?_, ?_, ?_, ?_, ?_, ?_, ?_, ?_, ?_, ?_, hA⟩
  · have kk : x_K (x_nO σ 6) (x_N σ) = 7 := by simp [K_nO]
    have kk2 : x_K (x_nA (x_uI (x_nO σ 6) 602 (x_N σ) dy) 0 13) (x_N σ) = 7 := by simp [K_nA, K_uI, K_nO, N_uI, N_nO]
    unfold mX6_init
    refine q_wI (ci := 6) kk ?_
    refine q_mA (n := 13) rfl (by decide) ?_
    refine q_wR (ci := 6) kk2 ?_
    have e2 : x_uR (x_nA (x_uI (x_nO σ 6) (100 * 6 + 2) (x_N σ) dy) 0 13) (100 * 6 + 1) (x_N σ) (some (x_N (x_uI (x_nO σ 6) (100 * 6 + 2) (x_N σ) dy))) = σ1 := hσ
    rw [e2]
    refine q_rI ko ((fo.2.1 400).trans (h.o0 o ho)) ?_
    refine q_rI ko ((fo.2.1 403).trans (h.o3 o ho)) ?_
    refine q_rI ko ((fo.2.1 404).trans (h.o4 o ho)) ?_
    refine q_p ?_
    refine q_rR k6 r6 ?_
    refine q_aL k10 l10 ?_
    refine q_p ?_
    have eN : (nI o).toInt64 * (100000 : Int64) + (T 20 o).toInt64 = lN (o * 100000 + ix (T 20 o)) := by
      have e20 := nI_l (n := ix (T 20 o)) (by omega)
      rw [← j20.1] at e20
      rw [nI_l (by omega), e20, show (100000 : Int64) = lN 100000 from rfl, lN_mul, lN_add]
    have eN2 : ((nI o).toInt64 * (100000 : Int64) + (T 20 o).toInt64) * (10000 : Int64) + (T 21 o).toInt64 = lN (dN T o) := by
      have e21 := nI_l (n := ix (T 21 o)) (by omega)
      rw [← j21.1] at e21
      rw [eN, e21, show (10000 : Int64) = lN 10000 from rfl, lN_mul, lN_add]
      rfl
    rw [eN2]
    exact e1
  · rw [g4, ← hσ]; rfl
  · rw [g5, ← hσ]; rfl
  · rw [g6, ← hσ]; rfl
  · rw [g1]; exact k6
  · rw [I6, tsm_cg hA]
  · rw [g7 _ _ (by omega), ← hσ]
    exact x_up_s _ _ _ _
  · rw [g7 _ _ (by omega), ← hσ]
    show x_I (x_nO σ 6) 603 (x_N σ) = 0
    rw [I_nO, if_pos rfl]
  · rw [g2]; exact r6
  · rw [g1]; exact k10
  · rw [g3]; exact l10
/-! the reference's digits -/
theorem t_digL (F : Nat) {K : Nat} (hK : K < 100) : ∀ (d n v i : Nat), v < 2147483648 → i + d = K → d < n → tX9_digit_4 F n (nI K) (nI v) (nI i) T = some (nI (v / 10 ^ d % 10), T) := by
  intro d
  induction d with
  | zero =>
    intro n v i hv hi hn
    obtain ⟨n, rfl⟩ : ∃ m, n = m + 1 := ⟨n - 1, by omega⟩
    rw [tX9_digit_4]
    refine r_t (nI_le (by omega) (by omega)) ?_
    show some (x_rem (nI v) (10 : Int32), T) = _
    rw [Nat.pow_zero, Nat.div_one]
    unfold x_rem
    rw [show (10 : Int32) = nI 10 from rfl, pk_rem hv (by decide) (by decide)]
  | succ d ih =>
    intro n v i hv hi hn
    obtain ⟨n, rfl⟩ : ∃ m, n = m + 1 := ⟨n - 1, by omega⟩
    rw [tX9_digit_4]
    refine r_f (nI_ge (by omega) (by omega)) ?_
    refine r_q ?_
    refine r_q ?_
    rw [show nI v / (10 : Int32) = nI (v / 10) from pk_div (d := 10) hv (by decide) (by decide), nI_1, ih n (v / 10) (i + 1) (by omega) (by omega) (by omega), Nat.div_div_eq_div_mul, Nat.pow_succ, Nat.mul_comm]
theorem t_digit {F : Nat} (hF : 100 < F) {v K : Nat} (hv : v < 2147483648) (hK : K < 100) : tX9_digit F (nI v) (nI K) T = some (nI (v / 10 ^ K % 10), T) :=
  t_digL F hK K F v 0 hv (by omega) (by omega)
end PSg
