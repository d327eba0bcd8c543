section FD
variable {b : Nat} {ad : Ad} {T : Tb} {Q : Qs} {σ : PH} {s : Nat}
theorem JT.C (h : JT s T) : isN (T 1 0) 11 := h.1
theorem JT.W (h : JT s T) : isN (T 7 0) 16 := h.2.1
theorem JT.B (h : JT s T) : isN (T 14 0) 9 := h.2.2.1
theorem JT.O (h : JT s T) : isN (T 17 0) 201 := h.2.2.2.1
theorem JT.M (h : JT s T) : isN (T 30 0) 1001 := h.2.2.2.2.1
theorem JT.nw (h : JT s T) : isN (T 0 0) 20001 := h.2.2.2.2.2.1
theorem JT.pu (h : JT s T) : isN (T 46 0) (cM T + 1000 * ix (T 0 0) + s + 1) := h.2.2.2.2.2.2.1
theorem JT.op (h : JT s T) : ∀ i, i < cC T → 1 ≤ T 4 i ∧ T 4 i ≤ 1440 := h.2.2.2.2.2.2.2.1
theorem JT.wi (h : JT s T) : ∀ w, w < cW T → isN (T 8 w) (cC T) ∧ isN (T 9 w) (cC T) ∧ ix (T 8 w) ≠ ix (T 9 w) ∧ isN (T 10 w) 61 ∧ 1 ≤ ix (T 10 w) ∧ 0 ≤ T 12 w := h.2.2.2.2.2.2.2.2.1
theorem JT.ls (h : JT s T) : ∀ i, i < 100 → isN (T 13 i) 1000001 := h.2.2.2.2.2.2.2.2.2.1
theorem JT.dg (h : JT s T) : ∀ i, i < 10 → Dm T i i = 0 := h.2.2.2.2.2.2.2.2.2.2.1
theorem JT.or (h : JT s T) : ∀ o, o < cO T → isN (T 18 o) (cC T) ∧ isN (T 19 o) (cC T) ∧ ix (T 18 o) ≠ ix (T 19 o) ∧ isN (T 20 o) 100000 ∧ isN (T 21 o) 10000 ∧ Dm T (ix (T 18 o)) (ix (T 19 o)) < 1000000 := h.2.2.2.2.2.2.2.2.2.2.2.2.2.1
theorem JT.me (h : JT s T) : ∀ m, m < cM T → isN (T 32 m) (cO T) ∧ isN (T 33 m) (cC T) ∧ isN (T 34 m) (cC T) ∧ isN (T 36 m) (cC T) ∧ isN (T 38 m) (ix (T 46 0)) ∧ (T 35 m = 0 ∨ T 35 m = 1 ∨ T 35 m = 2) := h.2.2.2.2.2.2.2.2.2.2.2.2.2.2.1
theorem JT.cC (h : JT s T) : cC T ≤ 10 := by have := h.C.2; unfold _root_.Nat.le at *; exact Nat.lt_succ_iff.mp this
theorem JT.cW (h : JT s T) : cW T ≤ 15 := Nat.lt_succ_iff.mp h.W.2
theorem JT.cO (h : JT s T) : cO T ≤ 200 := Nat.lt_succ_iff.mp h.O.2
theorem JT.cM (h : JT s T) : cM T ≤ 1000 := Nat.lt_succ_iff.mp h.M.2
theorem JT.cB (h : JT s T) : cB T ≤ 8 := Nat.lt_succ_iff.mp h.B.2
/-- what a search answers -/
def fd (T : Tb) (ad : Ad) (t c : Nat) (x : Int32) : Option Nat := if 0 ≤ x ∧ x < T t 0 then some (ad c (ix x)) else none
theorem fd_none {t c : Nat} {x : Int32} : fd T ad t c x = none ↔ ¬ (0 ≤ x ∧ x < T t 0) := by
  unfold fd; split <;> simp_all
theorem fd_some {t c : Nat} {x : Int32} (h : 0 ≤ x ∧ x < T t 0) : fd T ad t c x = some (ad c (ix x)) := if_pos h
theorem e_findCounter (h : RX b ad T Q σ) (j : JT s T) (F : Nat) (x : Int32) : x_rn (mX3_findCounter F (some (b + 1)) x) σ = some (fd T ad 1 1 x, σ) := by
  obtain ⟨hk1, hk2, hk3, hk4, hk5, hk6, hk7, hk8, hk9, hk10, hk11, hk12⟩ := h.fK
  obtain ⟨hl2, hl3, hl4, hl5, hl6, hl8, hl9, hl10, hl11⟩ := h.fL
  obtain ⟨r1, r2, r3, r4, r5, r6, r7, r8, r9, r10, r11⟩ := h.fR
  have hz := h.z300
  unfold mX3_findCounter
  by_cases h0 : x < 0
  · have : ¬ 0 ≤ x := i_nle.mpr h0
    simp [rn_bd, rn_pr, rn_fl, rn_ite, rn_rI, rn_rR, rn_wI, rn_wZ1, rn_wR, rn_aI, rn_aQ, rn_aL, rn_sI, rn_sQ, rn_mO, rn_cV, Option.bind_some, Option.bind_none, h0, fd, this]
  · have h0' : 0 ≤ x := i_nlt.mp h0
    by_cases h1 : T 1 0 ≤ x
    · have : ¬ x < T 1 0 := i_nlt.mpr h1
      simp [rn_bd, rn_pr, rn_fl, rn_ite, rn_rI, rn_rR, rn_wI, rn_wZ1, rn_wR, rn_aI, rn_aQ, rn_aL, rn_sI, rn_sQ, rn_mO, rn_cV, Option.bind_some, Option.bind_none, h0, hk2, hz, h1, fd, this]
    · have h1' : x < T 1 0 := i_nle.mp h1
      have hc := j.cC
      have hC := j.C
      obtain ⟨e1, e2⟩ := i_in h0' (by rw [hC.1] at h1'; exact h1') (by have := hC.2; omega)
      have e3 : ix x < cC T := e2
      have h2 : ¬ nI 10 ≤ x := by
        rw [i_nle, e1]
        exact nI_lt (by omega) (by decide)
      have h3 : x_rn (x_aQ 2 (some (b + 2)) x) σ = some (some (ad 1 (ix x)), σ) := by
        rw [e1, rn_aQ (by omega) (by omega) (by omega), h.a1 _ e3, ← e1]
      simp [rn_bd, rn_pr, rn_fl, rn_ite, rn_rI, rn_rR, rn_wI, rn_wZ1, rn_wR, rn_aI, rn_aQ, rn_aL, rn_sI, rn_sQ, rn_mO, rn_cV, Option.bind_some, Option.bind_none, h0, hk2, hz, h1, fd, h1', h0', r5, hk3, hl2, h2, h3]
end FD
