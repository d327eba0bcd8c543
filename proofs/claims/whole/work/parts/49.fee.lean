section PF
variable {b : Nat} {ad : Ad} {T : Tb} {Q : Qs} {σ : PH} {s : Nat}
def feL (T : Tb) (x : Int32) : Nat → Int32
  | 0 => x_max 1 (x / 100)
  | k + 1 => if T 15 (cB T - (k + 1)) < x then feL T x k else T 16 (cB T - (k + 1))
theorem nI_s1 {n k : Nat} (h : k + 1 ≤ n) : nI (n - (k + 1)) + 1 = nI (n - k) := by
  rw [nI_1]
  congr 1
  omega
theorem e_feeL (h : RX b ad T Q σ) (j : JT s T) (F : Nat) (x : Int32) : ∀ (k n : Nat), k ≤ cB T → k < n → x_rn (mX0_feeOf_2 F n (some (b + 7)) x (nI (cB T - k))) σ = some (feL T x k, σ) := by
  have k8 := h.fK.2.2.2.2.2.2.2.1
  have k9 := h.fK.2.2.2.2.2.2.2.2.1
  have k10 := h.fK.2.2.2.2.2.2.2.2.2.1
  have l8 := h.fL.2.2.2.2.2.1
  have l9 := h.fL.2.2.2.2.2.2.1
  have r10 := h.fR.2.2.2.2.2.2.2.2.2.1
  have r11 := h.fR.2.2.2.2.2.2.2.2.2.2
  have z2 := h.z2
  have hB := j.nB
  have hb := j.B.1
  intro k
  induction k with
  | zero =>
    intro n _ hn
    obtain ⟨n, rfl⟩ : ∃ m, n = m + 1 := ⟨n - 1, by omega⟩
    have c : T 14 0 ≤ nI (cB T - 0) := by
      rw [hb, Nat.sub_zero]; exact nI_le (Nat.le_refl _) (by have : cB T ≤ 8 := hB; show cB T < _; omega)
    rw [Nat.sub_zero] at c ⊢
    rw [mX0_feeOf_2]
    simp only [rn_bd, rn_pr, rn_fl, rn_ite, rn_rI, rn_rR, rn_wI, rn_wZ1, rn_wR, rn_aI, rn_aQ, rn_aL, rn_sI, rn_sQ, rn_mO, rn_cV, Option.bind_some, Option.bind_none, k8, show 100 * 0 + 2 = 2 from rfl, z2, c, if_true, feL]
  | succ k ih =>
    intro n hk hn
    obtain ⟨n, rfl⟩ : ∃ m, n = m + 1 := ⟨n - 1, by omega⟩
    have c : ¬ T 14 0 ≤ nI (cB T - (k + 1)) := by
      rw [hb]; exact nI_ge (show cB T - (k + 1) < cB T by omega) (by show cB T < _; omega)
    have c2 : ¬ (8 : Int32) ≤ nI (cB T - (k + 1)) := nI_ge (b := 8) (by omega) (by decide)
    have a1 : x_rn (x_aI 0 (some (b + 8)) (nI (cB T - (k + 1)))) σ = some (T 15 (cB T - (k + 1)), σ) := by
      rw [rn_aI (by omega) (by omega) (by omega), h.ab _ (by omega)]
    have a2 : x_rn (x_aI 0 (some (b + 9)) (nI (cB T - (k + 1)))) σ = some (T 16 (cB T - (k + 1)), σ) := by
      rw [rn_aI (by omega) (by omega) (by omega), h.af _ (by omega)]
    have e := ih n (by omega) (by omega)
    rw [mX0_feeOf_2]
    by_cases c3 : T 15 (cB T - (k + 1)) < x
    · simp [rn_bd, rn_pr, rn_fl, rn_ite, rn_rI, rn_rR, rn_wI, rn_wZ1, rn_wR, rn_aI, rn_aQ, rn_aL, rn_sI, rn_sQ, rn_mO, rn_cV, Option.bind_some, Option.bind_none, k8, z2, c, c2, r10, r11, a1, c3, nI_s1 hk, e, feL]
    · simp [rn_bd, rn_pr, rn_fl, rn_ite, rn_rI, rn_rR, rn_wI, rn_wZ1, rn_wR, rn_aI, rn_aQ, rn_aL, rn_sI, rn_sQ, rn_mO, rn_cV, Option.bind_some, Option.bind_none, k8, z2, c, c2, r10, r11, a1, a2, c3, feL]
theorem e_feeOf (h : RX b ad T Q σ) (j : JT s T) {F : Nat} (hF : 8 < F) (x : Int32) : x_rn (mX0_feeOf F (some (b + 7)) x) σ = some (feL T x (cB T), σ) := by
  have := e_feeL h j F x (cB T) F (Nat.le_refl _) (by have := j.nB; omega)
  rw [Nat.sub_self] at this
  exact this
theorem fe_dflt {x : Int32} (h1 : 1 ≤ x) (h2 : x ≤ 99999) : (if (100 : Int32) ≤ x then some (x / (100 : Int32), T) else some (1, T)) = some (x_max 1 (x / 100), T) := by
  obtain ⟨j, hj, rfl⟩ := nI_of (x := x) (fun q => by
    have q1 : x.toInt < 0 := (i_lt _ _).mp q
    rw [i_le] at h1
    have : (1 : Int) ≤ x.toInt := h1
    omega)
  have hj' : j < 2147483648 := by omega
  have e : nI j / (100 : Int32) = nI (j / 100) := pk_div (d := 100) (by omega) (by decide) (by decide)
  have e2 : ((100 : Int32) ≤ nI j) ↔ 100 ≤ j := nI_leI (a := 100) (by decide) (by omega)
  have e3 : ((1 : Int32) < nI (j / 100)) ↔ 1 < j / 100 := nI_ltI (a := 1) (by decide) (by omega)
  rw [e, x_max]
  simp only [e2, e3]
  by_cases c : 100 ≤ j
  · by_cases c2 : 1 < j / 100
    · simp [c, c2]
    · have : j / 100 = 1 := by omega
      simp [c, this]; rfl
  · have : ¬ 1 < j / 100 := by omega
    simp [c, this]
theorem t_feeL (j : JT s T) (F : Nat) {x : Int32} (h1 : 1 ≤ x) (h2 : x ≤ 99999) : ∀ (k n : Nat), k ≤ cB T → k < n → tX9_fee_14 F n x (nI (cB T - k)) T = some (feL T x k, T) := by
  have hB := j.nB
  have hb := j.B.1
  intro k
  induction k with
  | zero =>
    intro n _ hn
    obtain ⟨n, rfl⟩ : ∃ m, n = m + 1 := ⟨n - 1, by omega⟩
    have c : T 14 0 ≤ nI (cB T - 0) := by
      rw [hb, Nat.sub_zero]; exact nI_le (Nat.le_refl _) (by have : cB T ≤ 8 := hB; show cB T < _; omega)
    rw [tX9_fee_14]
    simp only [tm_ite, t_bd, t_pr, t_g, t_p, t_fl, Option.bind_some, Option.bind_none, c, if_true, feL]
    exact fe_dflt h1 h2
  | succ k ih =>
    intro n hk hn
    obtain ⟨n, rfl⟩ : ∃ m, n = m + 1 := ⟨n - 1, by omega⟩
    have c : ¬ T 14 0 ≤ nI (cB T - (k + 1)) := by
      rw [hb]; exact nI_ge (show cB T - (k + 1) < cB T by omega) (by show cB T < _; omega)
    have a1 := ta (k := 15) (i := cB T - (k + 1)) T (show cB T - (k + 1) < 8 by omega)
    have a2 := ta (k := 16) (i := cB T - (k + 1)) T (show cB T - (k + 1) < 8 by omega)
    have e := ih n (by omega) (by omega)
    rw [tX9_fee_14]
    by_cases c3 : T 15 (cB T - (k + 1)) < x
    · simp only [tm_ite, t_bd, t_pr, t_g, t_p, t_fl, Option.bind_some, Option.bind_none, c, a1, c3, nI_s1 hk, e, feL, if_false, if_true]
    · simp only [tm_ite, t_bd, t_pr, t_g, t_p, t_fl, Option.bind_some, Option.bind_none, c, a1, a2, c3, feL, if_false]
theorem t_fee (j : JT s T) {F : Nat} (hF : 8 < F) (x : Int32) : tX9_fee F x T = some (if 1 ≤ x ∧ x ≤ 99999 then feL T x (cB T) else -1, T) := by
  unfold tX9_fee
  by_cases c : 1 ≤ x ∧ x ≤ 99999
  · have e := t_feeL j F c.1 c.2 (cB T) F (Nat.le_refl _) (by have := j.nB; omega)
    rw [Nat.sub_self] at e
    simp only [tm_ite, t_bd, t_pr, t_g, t_p, t_fl, Option.bind_some, Option.bind_none, t_in, bi, c, and_self, if_true, show ¬ ((1 : Int32) = 0) by decide, if_false]
    exact e
  · simp only [tm_ite, t_bd, t_pr, t_g, t_p, t_fl, Option.bind_some, Option.bind_none, t_in, bi, c, if_false, if_true]
theorem p_fee (h : INV b ad T Q σ) {F : Nat} (hF : 8 < F) (x : Int32) : SIM b (mX8_fee F (some b) x) (mX9_fee F (some (b + 12)) x) σ := by
  obtain ⟨hX, hM, hJ, -⟩ := id h
  have k1 := hX.fK.1
  have k8 := hX.fK.2.2.2.2.2.2.2.1
  have r2 := hX.fR.2.1
  have e := e_feeOf hX hJ hF x
  refine SIM.read (g := tX9_fee F x) (r := if 1 ≤ x ∧ x ≤ 99999 then feL T x (cB T) else -1) h ?_ (fun hk => sX9_fee hk F x) (t_fee hJ hF x)
  unfold mX8_fee
  by_cases c : 1 ≤ x ∧ x ≤ 99999
  · simp only [rn_bd, rn_pr, rn_fl, rn_ite, rn_rI, rn_rR, rn_wI, rn_wZ1, rn_wR, rn_aI, rn_aQ, rn_aL, rn_sI, rn_sQ, rn_mO, rn_cV, Option.bind_some, Option.bind_none, e_within, bi, c, k1, k8, r2, e, and_self, if_true, show ¬ ((1 : Int32) = 0) by decide, if_false]
  · simp only [rn_bd, rn_pr, rn_fl, rn_ite, rn_rI, rn_rR, rn_wI, rn_wZ1, rn_wR, rn_aI, rn_aQ, rn_aL, rn_sI, rn_sQ, rn_mO, rn_cV, Option.bind_some, Option.bind_none, e_within, bi, c, if_false, if_true]
end PF
