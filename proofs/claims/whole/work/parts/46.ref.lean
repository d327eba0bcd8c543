theorem tm_ite {α : Type} (c : Prop) [Decidable c] (A B : TM α) (T : Tb) : (if c then A else B) T = if c then A T else B T := by
  split <;> rfl
section RF
variable {T : Tb} {s : Nat}
theorem i_sub1 {y : Int32} {n : Nat} (h : isN y n) (hn : n ≤ 2147483648) : (y - 1).toInt = y.toInt - 1 := by
  have e := h.ti hn
  have := h.2
  have h1 : (1 : Int32).toInt = 1 := rfl
  rw [Int32.toInt_sub, h1, e]
  apply Int.bmod_eq_of_le <;> omega
theorem le_sub1 {x y : Int32} {n : Nat} (h : isN y n) (hn : n ≤ 2147483648) : x ≤ y - 1 ↔ x < y := by
  rw [i_le, i_lt, i_sub1 h hn]; omega
theorem ta {k i : Nat} (T : Tb) (h : i < x_ln k) : t_a k (nI i) T = some (T k i, T) := by
  have hk : x_ln k ≤ 13000 := by
    unfold x_ln
    split <;> omega
  unfold t_a
  rw [if_neg (x_inI h (by omega)), x_clj (by omega)]
theorem ts {k i : Nat} (v : Int32) (T : Tb) (h : i < x_ln k) : t_s k (nI i) v T = some ((), x_up T k i v) := by
  have hk : x_ln k ≤ 13000 := by
    unfold x_ln
    split <;> omega
  unfold t_s
  rw [if_neg (x_inI h (by omega)), x_clj (by omega)]
theorem tz1 {k i : Nat} (T : Tb) (h : i < x_ln k) : t_z k (nI i) 1 T = some ((), x_up T k i 1) := by
  have hk : x_ln k ≤ 13000 := by
    unfold x_ln
    split <;> omega
  unfold t_z
  rw [if_pos (Or.inr rfl), if_neg (x_inI h (by omega)), x_clj (by omega)]
theorem t_isCounter (j : JT s T) (F : Nat) (x : Int32) : tX9_isCounter F x T = some (bi (0 ≤ x ∧ x < T 1 0), T) := by
  unfold tX9_isCounter
  simp only [tm_ite, t_bd, t_pr, t_g, t_p, t_fl, Option.bind_some, Option.bind_none, t_in, le_sub1 j.C (by omega), bi_ok, if_true]
theorem t_isOrder (j : JT s T) (F : Nat) (x : Int32) : tX9_isOrder F x T = some (bi (0 ≤ x ∧ x < T 17 0), T) := by
  unfold tX9_isOrder
  simp only [tm_ite, t_bd, t_pr, t_g, t_p, t_fl, Option.bind_some, Option.bind_none, t_in, le_sub1 j.O (by omega), bi_ok, if_true]
/-- an answer of a search by its number -/
theorem in_of {t n : Nat} (h : isN (T t 0) n) (hn : n ≤ 2147483648) {x : Int32} (hx : 0 ≤ x ∧ x < T t 0) : x = nI (ix x) ∧ ix x < ix (T t 0) := by
  have := h.2
  exact i_in hx.1 (by rw [← h.1]; exact hx.2) (by omega)
theorem t_isOpen (j : JT s T) (F : Nat) {i : Nat} (hi : i < cC T) : tX9_isOpen F (nI i) T = some (bi (T 3 i ≤ x_rem (T 0 0) 1440 ∧ x_rem (T 0 0) 1440 < T 4 i), T) := by
  have hc := j.nC
  have h4 := j.op i hi
  have e3 := ta (k := 3) T (show i < 10 by omega)
  have e4 := ta (k := 4) T (show i < 10 by omega)
  have e5 : ∀ x : Int32, x ≤ T 4 i - 1 ↔ x < T 4 i := by
    intro x
    have h5 : (1 : Int32).toInt = 1 := rfl
    have h6 : (1440 : Int32).toInt = 1440 := rfl
    rw [i_le, i_le] at h4
    rw [i_le, i_lt, Int32.toInt_sub, h5]
    have : ((T 4 i).toInt - 1).bmod (2 ^ 32) = (T 4 i).toInt - 1 := by apply Int.bmod_eq_of_le <;> omega
    rw [this]; omega
  unfold tX9_isOpen
  simp only [tm_ite, t_bd, t_pr, t_g, t_p, t_fl, Option.bind_some, Option.bind_none, e3, e4, t_in, e5, bi_ok, if_true]
end RF
section PB
variable {b : Nat} {ad : Ad} {T : Tb} {Q : Qs} {σ : PH}
/-- both calls, and what holds behind them -/
def SIM (b : Nat) (fx fm : PM Int32) (σ : PH) : Prop := ∃ (r : Int32) (σ1 σ2 : PH) (ad' : Ad) (T' : Tb) (Q' : Qs), x_rn fx σ = some (r, σ1) ∧ x_K σ1 (b + 12) = 10 ∧ x_rn fm σ1 = some (r, σ2) ∧ INV b ad' T' Q' σ2
/-- a call that changes nothing -/
theorem SIM.read {fx fm : PM Int32} {g : TM Int32} {r : Int32} (h : INV b ad T Q σ) (hx : x_rn fx σ = some (r, σ)) (hs : x_Ks σ (b + 12) → simT σ (b + 12) fm g) (hg : g T = some (r, T)) : SIM b fx fm σ := by
  refine ⟨r, σ, σ, ad, T, Q, hx, h.2.1.1.1, ?_, h⟩
  have := h.2.1.run hs hg
  rw [h.2.1.eq] at this
  exact this
theorem p_count (h : INV b ad T Q σ) (F : Nat) (x : Int32) : SIM b (mX8_count F (some b) x) (mX9_count F (some (b + 12)) x) σ := by
  obtain ⟨hX, hM, hJ, -⟩ := id h
  have k1 := hX.fK.1
  have k2 := hX.fK.2.1
  have z1 := hX.z804
  have z2 := hX.z805
  have z3 := hX.z806
  have z4 := hX.z808
  have z5 := hX.z809
  have z6 := hX.z810
  have z7 := hX.z300
  have z8 := hX.z301
  have r1 := hX.fR.1
  refine SIM.read (g := tX9_count F x) (r := if x = 0 then T 0 0 else if x = 1 then T 1 0 else if x = 2 then T 7 0 else if x = 3 then T 17 0 else if x = 4 then T 30 0 else if x = 5 then T 47 0 else if x = 6 then T 48 0 else if x = 7 then T 49 0 else -1) h ?_ (fun hk => sX9_count hk F x) ?_
  · unfold mX8_count
    simp only [rn_bd, rn_pr, rn_fl, rn_ite, rn_rI, rn_rR, rn_wI, rn_wZ1, rn_wR, rn_aI, rn_aQ, rn_aL, rn_sI, rn_sQ, rn_mO, rn_cV, Option.bind_some, Option.bind_none, k1, k2, z1, z2, z3, z4, z5, z6, z7, z8, r1]
    repeat (first | rfl | split)
  · unfold tX9_count
    simp only [tm_ite, t_bd, t_pr, t_g, t_p, t_fl, Option.bind_some, Option.bind_none]
    repeat (first | rfl | split)
end PB
