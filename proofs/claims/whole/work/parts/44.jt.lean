/-! What holds of the rows -/
def Dm (T : Tb) (i j : Nat) : Nat := ix (T 13 (10 * i + j))
def isN (x : Int32) (n : Nat) : Prop := x = nI (ix x) ∧ ix x < n
def JT (s : Nat) (T : Tb) : Prop :=
  (isN (T 1 0) 11) ∧ (isN (T 7 0) 16) ∧ (isN (T 14 0) 9) ∧ (isN (T 17 0) 201) ∧ (isN (T 30 0) 1001) ∧ (isN (T 0 0) 20001) ∧ (isN (T 46 0) (cM T + 1000 * ix (T 0 0) + s + 1)) ∧
  (∀ i, i < cC T → 1 ≤ T 4 i ∧ T 4 i ≤ 1440) ∧
  (∀ w, w < cW T → isN (T 8 w) (cC T) ∧ isN (T 9 w) (cC T) ∧ ix (T 8 w) ≠ ix (T 9 w) ∧ isN (T 10 w) 61 ∧ 1 ≤ ix (T 10 w) ∧ 0 ≤ T 12 w) ∧
  (∀ i, i < 100 → isN (T 13 i) 1000001) ∧
  (∀ i, i < 10 → Dm T i i = 0) ∧
  (∀ w v, w < cW T → v < 10 → Dm T (ix (T 8 w)) v ≤ Dm T (ix (T 9 w)) v + ix (T 10 w) ∧ Dm T (ix (T 9 w)) v ≤ Dm T (ix (T 8 w)) v + ix (T 10 w)) ∧
  (∀ i j, i < 10 → j < 10 → i ≠ j → Dm T i j < 1000000 → ∃ w, w < cW T ∧ ((ix (T 8 w) = i ∧ Dm T i j = ix (T 10 w) + Dm T (ix (T 9 w)) j) ∨ (ix (T 9 w) = i ∧ Dm T i j = ix (T 10 w) + Dm T (ix (T 8 w)) j))) ∧
  (∀ o, o < cO T → isN (T 18 o) (cC T) ∧ isN (T 19 o) (cC T) ∧ ix (T 18 o) ≠ ix (T 19 o) ∧ isN (T 20 o) 100000 ∧ isN (T 21 o) 10000 ∧ Dm T (ix (T 18 o)) (ix (T 19 o)) < 1000000) ∧
  (∀ m, m < cM T → isN (T 32 m) (cO T) ∧ isN (T 33 m) (cC T) ∧ isN (T 34 m) (cC T) ∧ isN (T 36 m) (cC T) ∧ isN (T 38 m) (ix (T 46 0)) ∧ (T 35 m = 0 ∨ T 35 m = 1 ∨ T 35 m = 2)) ∧
  (∀ m, m < cM T → T 35 m = 0 → isN (T 37 m) (cW T) ∧ (ix (T 36 m) = ix (T 8 (ix (T 37 m))) ∨ ix (T 36 m) = ix (T 9 (ix (T 37 m))))) ∧
  (∀ m, m < cM T → T 35 m = 1 → isN (T 39 m) (ix (T 0 0) + 61) ∧ ix (T 0 0) ≤ ix (T 39 m)) ∧
  (∀ m, m < cM T → (T 35 m ≠ 2 → Dm T (ix (T 36 m)) (ix (T 34 m)) < 1000000 ∧ T 40 m = -1) ∧ (T 35 m = 2 → T 40 m ≠ -1)) ∧
  (∀ i, cC T ≤ i → T 5 i = 0 ∧ T 6 i = 0) ∧ (∀ i, cW T ≤ i → T 11 i = 0 ∧ T 12 i = 0) ∧ (∀ i, cO T ≤ i → T 23 i = 0 ∧ T 24 i = 0 ∧ T 25 i = 0 ∧ T 26 i = 0 ∧ T 27 i = 0 ∧ T 29 i = 0) ∧ (∀ i, cM T ≤ i → T 41 i = 0 ∧ T 42 i = 0) ∧ (∀ m, m < cM T → T 31 m = 0 ∨ T 31 m = 1 ∨ T 31 m = 2 ∨ T 31 m = 3)
/-- the queues -/
def JQ (T : Tb) (Q : Qs) : Prop := (∀ k, k < 2 * cW T → ∀ m, m ∈ Q k ↔ (m < cM T ∧ T 35 m = 0 ∧ ix (T 37 m) = k / 2 ∧ ix (T 36 m) = en T k)) ∧ (∀ k, k < 2 * cW T → (Q k).Pairwise (fun a b => ix (T 38 a) < ix (T 38 b)))
def NA (b k : Nat) (T : Tb) (σ : PH) : Prop := ∀ m, m < cM T → m < k → T 35 m = 1 → x_I σ 807 b ≤ T 39 m
/-- the wire at the other end of which one is, seen from a counter -/
def ot (T : Tb) (w i : Nat) : Option Nat := if ix (T 8 w) = i then some (ix (T 9 w)) else if ix (T 9 w) = i then some (ix (T 8 w)) else none
/-- is wire w one by which LEAST from i to j comes out? -/
def cd (T : Tb) (i j w : Nat) : Bool := match ot T w i with
  | none => false
  | some o => decide (Dm T o j < 1000000) && decide (ix (T 10 w) + Dm T o j = Dm T i j)
def nwf (T : Tb) (i j : Nat) : Nat → Option Nat
  | 0 => none
  | n + 1 => if cd T i j n = true then (match nwf T i j n with
    | none => some n
    | some v => if (ot T n i).getD 0 < (ot T v i).getD 0 then some n else some v) else nwf T i j n
/-- the first wire of the fewest minutes between two -/
def stf (T : Tb) (i j : Nat) : Nat → Option Nat
  | 0 => none
  | n + 1 => if ot T n i = some j then (match stf T i j n with
    | none => some n
    | some v => if ix (T 10 n) < ix (T 10 v) then some n else some v) else stf T i j n
def WY (b : Nat) (ad : Ad) (T : Tb) (σ : PH) : Prop := (∀ i j, i < 10 → j < 10 → x_Q σ (b + 6) (10 * i + j) = (nwf T i j (cW T)).map (ad 7)) ∧ (∀ i j, i < 10 → j < 10 → x_Q σ (b + 5) (10 * i + j) = (stf T i j (cW T)).map (ad 7))
theorem ot_congr {T T' : Tb} (h8 : T' 8 = T 8) (h9 : T' 9 = T 9) (w i : Nat) : ot T' w i = ot T w i := by
  unfold ot; rw [h8, h9]
theorem Dm_congr {T T' : Tb} (h13 : T' 13 = T 13) (i j : Nat) : Dm T' i j = Dm T i j := by
  unfold Dm; rw [h13]
theorem cd_congr {T T' : Tb} (h8 : T' 8 = T 8) (h9 : T' 9 = T 9) (h10 : T' 10 = T 10) (h13 : T' 13 = T 13) (i j w : Nat) : cd T' i j w = cd T i j w := by
  unfold cd
  rw [ot_congr h8 h9, h10]
  cases ot T w i with
  | none => rfl
  | some o => simp only [Dm_congr h13]
theorem nwf_congr {T T' : Tb} (h8 : T' 8 = T 8) (h9 : T' 9 = T 9) (h10 : T' 10 = T 10) (h13 : T' 13 = T 13) (i j n : Nat) : nwf T' i j n = nwf T i j n := by
  induction n with
  | zero => rfl
  | succ n ih =>
    simp only [nwf, cd_congr h8 h9 h10 h13, ih, ot_congr h8 h9]
theorem stf_congr {T T' : Tb} (h8 : T' 8 = T 8) (h9 : T' 9 = T 9) (h10 : T' 10 = T 10) (i j n : Nat) : stf T' i j n = stf T i j n := by
  induction n with
  | zero => rfl
  | succ n ih =>
    simp only [stf, ih, ot_congr h8 h9, h10]
theorem WY.congr {b : Nat} {ad : Ad} {T T' : Tb} {σ σ' : PH} (h : WY b ad T σ) (h7 : T' 7 = T 7) (h8 : T' 8 = T 8) (h9 : T' 9 = T 9) (h10 : T' 10 = T 10) (h13 : T' 13 = T 13) (hQ : x_Q σ' = x_Q σ) : WY b ad T' σ' := by
  have e : cW T' = cW T := by unfold cW; rw [h7]
  refine ⟨fun i j hi hj => ?_, fun i j hi hj => ?_⟩
  · rw [hQ, nwf_congr h8 h9 h10 h13, e]; exact h.1 i j hi hj
  · rw [hQ, stf_congr h8 h9 h10, e]; exact h.2 i j hi hj
def RN (b : Nat) (T : Tb) (σ : PH) : Prop := b + 53 ≤ x_N σ ∧ x_N σ ≤ b + 53 + cC T + 3 * cW T + cO T + 3 * cM T ∧ x_U σ ≤ 40000 + 6 * cC T + 15 * cW T + 13 * cO T + 28 * cM T
def INV (b : Nat) (ad : Ad) (T : Tb) (Q : Qs) (σ : PH) : Prop := RX b ad T Q σ ∧ RM b T σ ∧ JT 0 T ∧ JQ T Q ∧ NA b 1000 T σ ∧ WY b ad T σ ∧ RN b T σ
def bi (c : Prop) [Decidable c] : Int32 := if c then 1 else 0
theorem bi_0 (c : Prop) [Decidable c] : bi c = 0 ↔ ¬ c := by
  unfold bi; split <;> rename_i h
  · exact ⟨fun q => absurd q (by decide), fun q => absurd h q⟩
  · exact ⟨fun _ => h, fun _ => rfl⟩
theorem bi_ok (c : Prop) [Decidable c] : (bi c = 0 ∨ bi c = 1) = True := by
  unfold bi; split <;> simp
theorem i_lt (a b : Int32) : a < b ↔ a.toInt < b.toInt := Int32.lt_iff_toInt_lt
theorem i_le (a b : Int32) : a ≤ b ↔ a.toInt ≤ b.toInt := Int32.le_iff_toInt_le
theorem i_nlt {a b : Int32} : ¬ a < b ↔ b ≤ a := by rw [i_lt, i_le]; omega
theorem i_nle {a b : Int32} : ¬ a ≤ b ↔ b < a := by rw [i_lt, i_le]; omega
theorem i_eq (a b : Int32) : a = b ↔ a.toInt = b.toInt := Int32.toInt_inj.symm
theorem i_nI {n : Nat} (h : n < 2147483648) : (nI n).toInt = n := nI_toInt (by omega)
theorem isN.ti {x : Int32} {n : Nat} (h : isN x n) (hn : n ≤ 2147483648) : x.toInt = ix x := by
  have := h.2
  have e := congrArg Int32.toInt h.1
  rw [i_nI (by omega)] at e
  exact e
theorem isN.mono {x : Int32} {n k : Nat} (h : isN x n) (hk : n ≤ k) : isN x k := ⟨h.1, Nat.lt_of_lt_of_le h.2 hk⟩
theorem isN.of {n k : Nat} (h : n < k) (hk : k ≤ 2147483648) : isN (nI n) k := by
  have e := ix_nI (n := n) (by omega)
  exact ⟨by rw [e], by rw [e]; exact h⟩
/-- a number in a row's range -/
theorem i_in {x : Int32} {n : Nat} (h0 : 0 ≤ x) (h : x < nI n) (hn : n < 2147483648) : x = nI (ix x) ∧ ix x < n := by
  rw [i_le] at h0
  rw [i_lt, i_nI hn] at h
  have h0' : (0 : Int) ≤ x.toInt := h0
  obtain ⟨j, hj, rfl⟩ := nI_of (x := x) (fun q => by rw [i_lt] at q; have : x.toInt < (0 : Int32).toInt := q; simp at this; omega)
  have e := ix_nI (n := j) (by omega)
  rw [i_nI (by omega)] at h
  exact ⟨by rw [e], by rw [e]; omega⟩
theorem e_within (F : Nat) (x lo hi : Int32) (σ : PH) : x_rn (mX8_isWithin F x lo hi) σ = some (bi (lo ≤ x ∧ x ≤ hi), σ) := by
  unfold mX8_isWithin bi
  simp only [rn_ite, rn_pr]
  by_cases h1 : x < lo
  · have : ¬ lo ≤ x := i_nle.mpr h1
    simp [h1, this]
  · have h2 : lo ≤ x := i_nlt.mp h1
    by_cases h3 : hi < x
    · have : ¬ x ≤ hi := i_nle.mpr h3
      simp [h1, h3, this]
    · have : x ≤ hi := i_nlt.mp h3
      simp [h1, h2, h3, this]
theorem t_in (F : Nat) (x lo hi : Int32) (T : Tb) : tX9_in F x lo hi T = some (bi (lo ≤ x ∧ x ≤ hi), T) := by
  unfold tX9_in bi
  by_cases h1 : x < lo
  · have : ¬ lo ≤ x := i_nle.mpr h1
    simp [h1, this, t_pr]
  · have h2 : lo ≤ x := i_nlt.mp h1
    by_cases h3 : hi < x
    · have : ¬ x ≤ hi := i_nle.mpr h3
      simp [h1, h3, this, t_pr]
    · have : x ≤ hi := i_nlt.mp h3
      simp [h1, h2, h3, this, t_pr]
