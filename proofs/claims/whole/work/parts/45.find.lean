section FD
variable {b : Nat} {ad : Ad} {T : Tb} {Q : Qs} {σ : PH} {s : Nat}
theorem JT.C (h : JT s T) : isN (T 1 0) 11 := h.1
theorem JT.W (h : JT s T) : isN (T 7 0) 16 := h.2.1
theorem JT.B (h : JT s T) : isN (T 14 0) 9 := h.2.2.1
theorem JT.O (h : JT s T) : isN (T 17 0) 201 := h.2.2.2.1
theorem JT.M (h : JT s T) : isN (T 30 0) 1001 := h.2.2.2.2.1
theorem JT.nw (h : JT s T) : isN (T 0 0) 20001 := h.2.2.2.2.2.1
theorem JT.pu (h : JT s T) : isN (T 46 0) (cM T + 1000 * ix (T 0 0) + s + 1) := h.2.2.2.2.2.2.1
theorem JT.op (h : JT s T) : ∀ i, i < cC T → 1 ≤ T 4 i ∧ T 4 i ≤ 1440 := h.2.2.2.2.2.2.2.1
theorem JT.wi (h : JT s T) : ∀ w, w < cW T → isN (T 8 w) (cC T) ∧ isN (T 9 w) (cC T) ∧ ix (T 8 w) ≠ ix (T 9 w) ∧ isN (T 10 w) 61 ∧ 1 ≤ ix (T 10 w) ∧ 0 ≤ T 12 w := h.2.2.2.2.2.2.2.2.1
theorem JT.ls (h : JT s T) : ∀ i, i < 100 → isN (T 13 i) 1000001 := h.2.2.2.2.2.2.2.2.2.1
theorem JT.dg (h : JT s T) : ∀ i, i < 10 → Dm T i i = 0 := h.2.2.2.2.2.2.2.2.2.2.1
theorem JT.or (h : JT s T) : ∀ o, o < cO T → isN (T 18 o) (cC T) ∧ isN (T 19 o) (cC T) ∧ ix (T 18 o) ≠ ix (T 19 o) ∧ isN (T 20 o) 100000 ∧ isN (T 21 o) 10000 ∧ Dm T (ix (T 18 o)) (ix (T 19 o)) < 1000000 := h.2.2.2.2.2.2.2.2.2.2.2.2.2.1
theorem JT.me (h : JT s T) : ∀ m, m < cM T → isN (T 32 m) (cO T) ∧ isN (T 33 m) (cC T) ∧ isN (T 34 m) (cC T) ∧ isN (T 36 m) (cC T) ∧ isN (T 38 m) (ix (T 46 0)) ∧ (T 35 m = 0 ∨ T 35 m = 1 ∨ T 35 m = 2) := h.2.2.2.2.2.2.2.2.2.2.2.2.2.2.1
theorem JT.nC (h : JT s T) : cC T ≤ 10 := by have := h.C.2; unfold _root_.Nat.le at *; exact Nat.lt_succ_iff.mp this
theorem JT.nW (h : JT s T) : cW T ≤ 15 := Nat.lt_succ_iff.mp h.W.2
theorem JT.nO (h : JT s T) : cO T ≤ 200 := Nat.lt_succ_iff.mp h.O.2
theorem JT.nM (h : JT s T) : cM T ≤ 1000 := Nat.lt_succ_iff.mp h.M.2
theorem JT.nB (h : JT s T) : cB T ≤ 8 := Nat.lt_succ_iff.mp h.B.2
/-- what a search answers -/
def fd (T : Tb) (ad : Ad) (t c : Nat) (x : Int32) : Option Nat := if 0 ≤ x ∧ x < T t 0 then some (ad c (ix x)) else none
theorem fd_none {t c : Nat} {x : Int32} : fd T ad t c x = none ↔ ¬ (0 ≤ x ∧ x < T t 0) := by
  unfold fd; split <;> simp_all
theorem fd_some {t c : Nat} {x : Int32} (h : 0 ≤ x ∧ x < T t 0) : fd T ad t c x = some (ad c (ix x)) := if_pos h
theorem e_findCounter (h : RX b ad T Q σ) (j : JT s T) (F : Nat) (x : Int32) : x_rn (mX3_findCounter F (some (b + 1)) x) σ = some (fd T ad 1 1 x, σ) := by
  obtain ⟨hk1, hk2, hk3, hk4, hk5, hk6, hk7, hk8, hk9, hk10, hk11, hk12⟩ := h.fK
  obtain ⟨hl2, hl3, hl4, hl5, hl6, hl8, hl9, hl10, hl11⟩ := h.fL
  obtain ⟨r1, r2, r3, r4, r5, r6, r7, r8, r9, r10, r11⟩ := h.fR
  have hz := h.z300
  unfold mX3_findCounter
  by_cases h0 : x < 0
  · have : ¬ 0 ≤ x := i_nle.mpr h0
    simp [rn_bd, rn_pr, rn_fl, rn_ite, rn_rI, rn_rR, rn_wI, rn_wZ1, rn_wR, rn_aI, rn_aQ, rn_aL, rn_sI, rn_sQ, rn_mO, rn_cV, Option.bind_some, Option.bind_none, h0, fd, this]
  · have h0' : 0 ≤ x := i_nlt.mp h0
    by_cases h1 : T 1 0 ≤ x
    · have : ¬ x < T 1 0 := i_nlt.mpr h1
      simp [rn_bd, rn_pr, rn_fl, rn_ite, rn_rI, rn_rR, rn_wI, rn_wZ1, rn_wR, rn_aI, rn_aQ, rn_aL, rn_sI, rn_sQ, rn_mO, rn_cV, Option.bind_some, Option.bind_none, h0, hk2, hz, h1, fd, this]
    · have h1' : x < T 1 0 := i_nle.mp h1
      have hc := j.nC
      have hC := j.C
      obtain ⟨e1, e2⟩ := i_in h0' (by rw [hC.1] at h1'; exact h1') (by have := hC.2; omega)
      have e3 : ix x < cC T := e2
      have h2 : ¬ nI 10 ≤ x := by
        rw [i_nle, e1]
        exact nI_lt (by omega) (by decide)
      have h3 : x_rn (x_aQ 2 (some (b + 2)) x) σ = some (some (ad 1 (ix x)), σ) := by
        rw [e1, rn_aQ (by omega) (by omega) (by omega), h.a1 _ e3, ← e1]
      simp [rn_bd, rn_pr, rn_fl, rn_ite, rn_rI, rn_rR, rn_wI, rn_wZ1, rn_wR, rn_aI, rn_aQ, rn_aL, rn_sI, rn_sQ, rn_mO, rn_cV, Option.bind_some, Option.bind_none, h0, hk2, hz, h1, fd, h1', h0', r5, hk3, hl2, h2, h3]
theorem e_findWire (h : RX b ad T Q σ) (j : JT s T) (F : Nat) (x : Int32) : x_rn (mX3_findWire F (some (b + 1)) x) σ = some (fd T ad 7 7 x, σ) := by
  obtain ⟨hk1, hk2, hk3, hk4, hk5, hk6, hk7, hk8, hk9, hk10, hk11, hk12⟩ := h.fK
  obtain ⟨hl2, hl3, hl4, hl5, hl6, hl8, hl9, hl10, hl11⟩ := h.fL
  obtain ⟨r1, r2, r3, r4, r5, r6, r7, r8, r9, r10, r11⟩ := h.fR
  have hz := h.z301
  unfold mX3_findWire
  by_cases h0 : x < 0
  · have : ¬ 0 ≤ x := i_nle.mpr h0
    simp [rn_bd, rn_pr, rn_fl, rn_ite, rn_rI, rn_rR, rn_wI, rn_wZ1, rn_wR, rn_aI, rn_aQ, rn_aL, rn_sI, rn_sQ, rn_mO, rn_cV, Option.bind_some, Option.bind_none, h0, fd, this]
  · have h0' : 0 ≤ x := i_nlt.mp h0
    by_cases h1 : T 7 0 ≤ x
    · have : ¬ x < T 7 0 := i_nlt.mpr h1
      simp [rn_bd, rn_pr, rn_fl, rn_ite, rn_rI, rn_rR, rn_wI, rn_wZ1, rn_wR, rn_aI, rn_aQ, rn_aL, rn_sI, rn_sQ, rn_mO, rn_cV, Option.bind_some, Option.bind_none, h0, hk2, hz, h1, fd, this]
    · have h1' : x < T 7 0 := i_nle.mp h1
      have hc := j.nW
      have hC := j.W
      obtain ⟨e1, e2⟩ := i_in h0' (by rw [hC.1] at h1'; exact h1') (by have := hC.2; omega)
      have e3 : ix x < cW T := e2
      have h2 : ¬ nI 15 ≤ x := by
        rw [i_nle, e1]
        exact nI_lt (by omega) (by decide)
      have h3 : x_rn (x_aQ 5 (some (b + 3)) x) σ = some (some (ad 7 (ix x)), σ) := by
        rw [e1, rn_aQ (by omega) (by omega) (by omega), h.a7 _ e3, ← e1]
      simp [rn_bd, rn_pr, rn_fl, rn_ite, rn_rI, rn_rR, rn_wI, rn_wZ1, rn_wR, rn_aI, rn_aQ, rn_aL, rn_sI, rn_sQ, rn_mO, rn_cV, Option.bind_some, Option.bind_none, h0, hk2, hz, h1, fd, h1', h0', r6, hk4, hl3, h2, h3]
theorem e_findOrder (h : RX b ad T Q σ) (j : JT s T) (F : Nat) (x : Int32) : x_rn (mX8_findOrder F (some b) x) σ = some (fd T ad 17 4 x, σ) := by
  obtain ⟨hk1, hk2, hk3, hk4, hk5, hk6, hk7, hk8, hk9, hk10, hk11, hk12⟩ := h.fK
  obtain ⟨hl2, hl3, hl4, hl5, hl6, hl8, hl9, hl10, hl11⟩ := h.fL
  obtain ⟨r1, r2, r3, r4, r5, r6, r7, r8, r9, r10, r11⟩ := h.fR
  have hz := h.z804
  unfold mX8_findOrder
  by_cases h0 : x < 0
  · have : ¬ 0 ≤ x := i_nle.mpr h0
    simp [rn_bd, rn_pr, rn_fl, rn_ite, rn_rI, rn_rR, rn_wI, rn_wZ1, rn_wR, rn_aI, rn_aQ, rn_aL, rn_sI, rn_sQ, rn_mO, rn_cV, Option.bind_some, Option.bind_none, h0, fd, this]
  · have h0' : 0 ≤ x := i_nlt.mp h0
    by_cases h1 : T 17 0 ≤ x
    · have : ¬ x < T 17 0 := i_nlt.mpr h1
      simp [rn_bd, rn_pr, rn_fl, rn_ite, rn_rI, rn_rR, rn_wI, rn_wZ1, rn_wR, rn_aI, rn_aQ, rn_aL, rn_sI, rn_sQ, rn_mO, rn_cV, Option.bind_some, Option.bind_none, h0, hk1, hz, h1, fd, this]
    · have h1' : x < T 17 0 := i_nle.mp h1
      have hc := j.nO
      have hC := j.O
      obtain ⟨e1, e2⟩ := i_in h0' (by rw [hC.1] at h1'; exact h1') (by have := hC.2; omega)
      have e3 : ix x < cO T := e2
      have h2 : ¬ nI 200 ≤ x := by
        rw [i_nle, e1]
        exact nI_lt (by omega) (by decide)
      have h3 : x_rn (x_aQ 4 (some (b + 10)) x) σ = some (some (ad 4 (ix x)), σ) := by
        rw [e1, rn_aQ (by omega) (by omega) (by omega), h.a4 _ e3, ← e1]
      simp [rn_bd, rn_pr, rn_fl, rn_ite, rn_rI, rn_rR, rn_wI, rn_wZ1, rn_wR, rn_aI, rn_aQ, rn_aL, rn_sI, rn_sQ, rn_mO, rn_cV, Option.bind_some, Option.bind_none, h0, hk1, hz, h1, fd, h1', h0', r3, hk11, hl10, h2, h3]
theorem e_findMessage (h : RX b ad T Q σ) (j : JT s T) (F : Nat) (x : Int32) : x_rn (mX8_findMessage F (some b) x) σ = some (fd T ad 30 2 x, σ) := by
  obtain ⟨hk1, hk2, hk3, hk4, hk5, hk6, hk7, hk8, hk9, hk10, hk11, hk12⟩ := h.fK
  obtain ⟨hl2, hl3, hl4, hl5, hl6, hl8, hl9, hl10, hl11⟩ := h.fL
  obtain ⟨r1, r2, r3, r4, r5, r6, r7, r8, r9, r10, r11⟩ := h.fR
  have hz := h.z805
  unfold mX8_findMessage
  by_cases h0 : x < 0
  · have : ¬ 0 ≤ x := i_nle.mpr h0
    simp [rn_bd, rn_pr, rn_fl, rn_ite, rn_rI, rn_rR, rn_wI, rn_wZ1, rn_wR, rn_aI, rn_aQ, rn_aL, rn_sI, rn_sQ, rn_mO, rn_cV, Option.bind_some, Option.bind_none, h0, fd, this]
  · have h0' : 0 ≤ x := i_nlt.mp h0
    by_cases h1 : T 30 0 ≤ x
    · have : ¬ x < T 30 0 := i_nlt.mpr h1
      simp [rn_bd, rn_pr, rn_fl, rn_ite, rn_rI, rn_rR, rn_wI, rn_wZ1, rn_wR, rn_aI, rn_aQ, rn_aL, rn_sI, rn_sQ, rn_mO, rn_cV, Option.bind_some, Option.bind_none, h0, hk1, hz, h1, fd, this]
    · have h1' : x < T 30 0 := i_nle.mp h1
      have hc := j.nM
      have hC := j.M
      obtain ⟨e1, e2⟩ := i_in h0' (by rw [hC.1] at h1'; exact h1') (by have := hC.2; omega)
      have e3 : ix x < cM T := e2
      have h2 : ¬ nI 1000 ≤ x := by
        rw [i_nle, e1]
        exact nI_lt (by omega) (by decide)
      have h3 : x_rn (x_aQ 3 (some (b + 11)) x) σ = some (some (ad 2 (ix x)), σ) := by
        rw [e1, rn_aQ (by omega) (by omega) (by omega), h.a2 _ e3, ← e1]
      simp [rn_bd, rn_pr, rn_fl, rn_ite, rn_rI, rn_rR, rn_wI, rn_wZ1, rn_wR, rn_aI, rn_aQ, rn_aL, rn_sI, rn_sQ, rn_mO, rn_cV, Option.bind_some, Option.bind_none, h0, hk1, hz, h1, fd, h1', h0', r4, hk12, hl11, h2, h3]
theorem e_leastOf (h : RX b ad T Q σ) (F : Nat) {i k : Nat} (hi : i < 10) (hk : k < 10) : x_rn (mX3_leastOf F (some (b + 1)) (nI i) (nI k)) σ = some (T 13 (10 * i + k), σ) := by
  obtain ⟨hk1, hk2, hk3, hk4, hk5, hk6, hk7, hk8, hk9, hk10, hk11, hk12⟩ := h.fK
  obtain ⟨hl2, hl3, hl4, hl5, hl6, hl8, hl9, hl10, hl11⟩ := h.fL
  obtain ⟨r1, r2, r3, r4, r5, r6, r7, r8, r9, r10, r11⟩ := h.fR
  have e : nI i * (10 : Int32) + nI k = nI (10 * i + k) := by
    rw [show (10 : Int32) = nI 10 from rfl, pk_mul, nI_add, Nat.mul_comm]
  have c1 : ¬ nI (10 * i + k) < 0 := nI_pos (by omega)
  have c2 : ¬ (100 : Int32) ≤ nI (10 * i + k) := by
    rw [i_nle]; exact nI_lt (a := 10 * i + k) (b := 100) (by omega) (by decide)
  have e3 : x_rn (x_aI 0 (some (b + 4)) (nI (10 * i + k))) σ = some (T 13 (10 * i + k), σ) := by
    rw [rn_aI (by omega) (by omega) (by omega), h.al _ (by omega)]
  unfold mX3_leastOf mX3_cell mX3_isCell
  simp [rn_bd, rn_pr, rn_fl, rn_ite, rn_rI, rn_rR, rn_wI, rn_wZ1, rn_wR, rn_aI, rn_aQ, rn_aL, rn_sI, rn_sQ, rn_mO, rn_cV, Option.bind_some, Option.bind_none, e, c1, c2, hk2, r7, e3]
theorem e_minutes (h : RX b ad T Q σ) (j : JT s T) (F : Nat) {i k : Nat} (hi : i < cC T) (hk : k < cC T) : x_rn (mX3_minutesBetween F (some (b + 1)) (some (ad 1 i)) (some (ad 1 k))) σ = some (T 13 (10 * i + k), σ) := by
  have hc := j.nC
  have e1 := h.k1 i hi
  have e2 := h.k1 k hk
  have e3 := h.c0 i hi
  have e4 := h.c0 k hk
  have e5 := e_leastOf h F (i := i) (k := k) (by omega) (by omega)
  have e6 := h.fK.2.1
  unfold mX3_minutesBetween
  simp [rn_bd, rn_pr, rn_fl, rn_ite, rn_rI, rn_rR, rn_wI, rn_wZ1, rn_wR, rn_aI, rn_aQ, rn_aL, rn_sI, rn_sQ, rn_mO, rn_cV, Option.bind_some, Option.bind_none, e1, e2, e3, e4, e5, e6]
theorem e_hasWay (h : RX b ad T Q σ) (j : JT s T) (F : Nat) {i k : Nat} (hi : i < cC T) (hk : k < cC T) : x_rn (mX3_hasWay F (some (b + 1)) (some (ad 1 i)) (some (ad 1 k))) σ = some (bi (Dm T i k < 1000000), σ) := by
  have hc := j.nC
  have e5 := e_minutes h j F hi hk
  have e6 := h.fK.2.1
  have e7 := j.ls (10 * i + k) (by omega)
  unfold mX3_hasWay
  simp only [rn_bd, rn_pr, rn_fl, rn_ite, rn_rI, rn_rR, rn_wI, rn_wZ1, rn_wR, rn_aI, rn_aQ, rn_aL, rn_sI, rn_sQ, rn_mO, rn_cV, Option.bind_some, Option.bind_none, e6, e5]
  have : ((1000000 : Int32) ≤ T 13 (10 * i + k)) ↔ ¬ Dm T i k < 1000000 := by
    rw [i_le, e7.ti (by omega)]
    show (1000000 : Int) ≤ _ ↔ _
    unfold Dm
    omega
  by_cases c : Dm T i k < 1000000
  · simp [bi, c, this]
  · simp [bi, c, this]
theorem e_isOpen (h : RX b ad T Q σ) (F : Nat) {i : Nat} (hi : i < cC T) (x : Int32) : x_rn (mX1_isOpen F (some (ad 1 i)) x) σ = some (bi (T 3 i ≤ x_rem x 1440 ∧ x_rem x 1440 < T 4 i), σ) := by
  have e1 := h.k1 i hi
  have e2 := h.c1 i hi
  have e3 := h.c2 i hi
  unfold mX1_isOpen
  simp only [rn_bd, rn_pr, rn_fl, rn_ite, rn_rI, rn_rR, rn_wI, rn_wZ1, rn_wR, rn_aI, rn_aQ, rn_aL, rn_sI, rn_sQ, rn_mO, rn_cV, Option.bind_some, Option.bind_none, e1]
  simp only [e2, e3]
  by_cases c1 : x_rem x 1440 < T 3 i
  · have : ¬ T 3 i ≤ x_rem x 1440 := i_nle.mpr c1
    simp [c1, this, bi]
  · have d1 : T 3 i ≤ x_rem x 1440 := i_nlt.mp c1
    by_cases c2 : T 4 i ≤ x_rem x 1440
    · have : ¬ x_rem x 1440 < T 4 i := i_nlt.mpr c2
      simp [c1, c2, this, bi]
    · have : x_rem x 1440 < T 4 i := i_nle.mp c2
      simp [c1, c2, d1, this, bi]
theorem e_canWrite (h : RX b ad T Q σ) (j : JT s T) (F : Nat) : x_rn (mX8_canWrite F (some b)) σ = some (bi (cM T < 1000), σ) := by
  obtain ⟨hk1, hk2, hk3, hk4, hk5, hk6, hk7, hk8, hk9, hk10, hk11, hk12⟩ := h.fK
  obtain ⟨hl2, hl3, hl4, hl5, hl6, hl8, hl9, hl10, hl11⟩ := h.fL
  obtain ⟨r1, r2, r3, r4, r5, r6, r7, r8, r9, r10, r11⟩ := h.fR
  have hz := h.z805
  have hM := j.M
  unfold mX8_canWrite
  simp only [rn_bd, rn_pr, rn_fl, rn_ite, rn_rI, rn_rR, rn_wI, rn_wZ1, rn_wR, rn_aI, rn_aQ, rn_aL, rn_sI, rn_sQ, rn_mO, rn_cV, Option.bind_some, Option.bind_none, hk1]
  simp only [show (100 * 8 + 5) = 805 from rfl, show (100 * 8 + 3) = 803 from rfl, hz, r4, rn_bd, rn_pr, rn_fl, rn_ite, rn_rI, rn_rR, rn_wI, rn_wZ1, rn_wR, rn_aI, rn_aQ, rn_aL, rn_sI, rn_sQ, rn_mO, rn_cV, Option.bind_some, Option.bind_none, hk12, hl11]
  have : (nI 1000 ≤ T 30 0) ↔ ¬ cM T < 1000 := by
    rw [i_le, hM.ti (by omega), i_nI (by omega)]
    unfold cM
    omega
  by_cases c : cM T < 1000
  · simp [bi, c, this]
  · simp [bi, c, this]
theorem e_oneIf (F : Nat) (x : Int32) (σ : PH) : x_rn (mX8_oneIf F x) σ = some (if x = 0 then 0 else 1, σ) := by
  unfold mX8_oneIf
  simp only [rn_bd, rn_pr, rn_fl, rn_ite, rn_rI, rn_rR, rn_wI, rn_wZ1, rn_wR, rn_aI, rn_aQ, rn_aL, rn_sI, rn_sQ, rn_mO, rn_cV, Option.bind_some, Option.bind_none]
  split <;> rfl
end FD
