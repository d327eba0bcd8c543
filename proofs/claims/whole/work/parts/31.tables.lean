/-! The reference by its own rows: T k i is place i of the row of field k, T k 0 the number of field k -/
abbrev Tb : Type := Nat → Nat → Int32
abbrev TM (α : Type) : Type := Tb → Option (α × Tb)
def x_od (k : Nat) : Nat := match k with
  | 2 => 1
  | 3 => 2
  | 4 => 3
  | 5 => 4
  | 6 => 5
  | 8 => 6
  | 9 => 7
  | 10 => 8
  | 11 => 9
  | 12 => 10
  | 13 => 11
  | 15 => 12
  | 16 => 13
  | 18 => 14
  | 19 => 15
  | 20 => 16
  | 21 => 17
  | 22 => 18
  | 23 => 19
  | 24 => 20
  | 25 => 21
  | 26 => 22
  | 27 => 23
  | 28 => 24
  | 29 => 25
  | 31 => 26
  | 32 => 27
  | 33 => 28
  | 34 => 29
  | 35 => 30
  | 36 => 31
  | 37 => 32
  | 38 => 33
  | 39 => 34
  | 40 => 35
  | 41 => 36
  | 42 => 37
  | 43 => 38
  | 44 => 39
  | 45 => 40
  | _ => 0
def x_fo (j : Nat) : Nat := match j with
  | 1 => 2
  | 2 => 3
  | 3 => 4
  | 4 => 5
  | 5 => 6
  | 6 => 8
  | 7 => 9
  | 8 => 10
  | 9 => 11
  | 10 => 12
  | 11 => 13
  | 12 => 15
  | 13 => 16
  | 14 => 18
  | 15 => 19
  | 16 => 20
  | 17 => 21
  | 18 => 22
  | 19 => 23
  | 20 => 24
  | 21 => 25
  | 22 => 26
  | 23 => 27
  | 24 => 28
  | 25 => 29
  | 26 => 31
  | 27 => 32
  | 28 => 33
  | 29 => 34
  | 30 => 35
  | 31 => 36
  | 32 => 37
  | 33 => 38
  | 34 => 39
  | 35 => 40
  | 36 => 41
  | 37 => 42
  | 38 => 43
  | 39 => 44
  | 40 => 45
  | _ => 0
def x_ln (k : Nat) : Nat := match k with
  | 2 => 10
  | 3 => 10
  | 4 => 10
  | 5 => 10
  | 6 => 10
  | 8 => 15
  | 9 => 15
  | 10 => 15
  | 11 => 15
  | 12 => 15
  | 13 => 100
  | 15 => 8
  | 16 => 8
  | 18 => 200
  | 19 => 200
  | 20 => 200
  | 21 => 200
  | 22 => 200
  | 23 => 200
  | 24 => 200
  | 25 => 200
  | 26 => 200
  | 27 => 200
  | 28 => 200
  | 29 => 200
  | 31 => 1000
  | 32 => 1000
  | 33 => 1000
  | 34 => 1000
  | 35 => 1000
  | 36 => 1000
  | 37 => 1000
  | 38 => 1000
  | 39 => 1000
  | 40 => 1000
  | 41 => 1000
  | 42 => 1000
  | 43 => 1000
  | 44 => 1000
  | 45 => 13000
  | _ => 0
def x_kd (k : Nat) : Nat := match k with
  | 2 => 0
  | 3 => 0
  | 4 => 0
  | 5 => 0
  | 6 => 0
  | 8 => 0
  | 9 => 0
  | 10 => 0
  | 11 => 0
  | 12 => 0
  | 13 => 0
  | 15 => 0
  | 16 => 0
  | 18 => 0
  | 19 => 0
  | 20 => 0
  | 21 => 0
  | 22 => 0
  | 23 => 1
  | 24 => 1
  | 25 => 1
  | 26 => 1
  | 27 => 1
  | 28 => 0
  | 29 => 0
  | 31 => 0
  | 32 => 0
  | 33 => 0
  | 34 => 0
  | 35 => 0
  | 36 => 0
  | 37 => 0
  | 38 => 0
  | 39 => 0
  | 40 => 0
  | 41 => 1
  | 42 => 1
  | 43 => 0
  | 44 => 0
  | 45 => 0
  | _ => 2
def t_bd {α β : Type} (f : TM α) (g : α → TM β) : TM β := fun T => (f T).bind (fun q => g q.1 q.2)
def t_pr {α : Type} (a : α) : TM α := fun T => some (a, T)
def t_fl {α : Type} : TM α := fun _ => none
def t_g (k : Nat) : TM Int32 := fun T => some (T k 0, T)
def t_p (k : Nat) (v : Int32) : TM Unit := fun T => some ((), x_up T k 0 v)
def t_a (k : Nat) (i : Int32) : TM Int32 := fun T => if i < 0 ∨ x_ln k ≤ i.toNatClampNeg then none else some (T k i.toNatClampNeg, T)
def t_s (k : Nat) (i v : Int32) : TM Unit := fun T => if i < 0 ∨ x_ln k ≤ i.toNatClampNeg then none else some ((), x_up T k i.toNatClampNeg v)
def t_z (k : Nat) (i v : Int32) : TM Unit := fun T => if v = 0 ∨ v = 1 then (if i < 0 ∨ x_ln k ≤ i.toNatClampNeg then none else some ((), x_up T k i.toNatClampNeg v)) else none
/-- the store whose reference holds T -/
def x_wTI (σ : PH) (m0 : Nat) (T : Tb) : Nat → Nat → Int32 := fun f a => if a = m0 ∧ 900 ≤ f ∧ x_kd (f - 900) = 2 then T (f - 900) 0 else x_I σ f a
def x_wTA (σ : PH) (m0 : Nat) (T : Tb) : Nat → Nat → Int32 := fun a i => if m0 < a ∧ a ≤ m0 + 40 then T (x_fo (a - m0)) i else x_A σ a i
def x_wT (σ : PH) (m0 : Nat) (T : Tb) : PH := (x_K σ, x_wTI σ m0 T, x_R σ, x_wTA σ m0 T, x_Q σ, x_L σ, x_N σ, x_U σ)
def x_Ks (σ : PH) (m0 : Nat) : Prop := x_K σ m0 = 10 ∧ ∀ k, x_kd k < 2 → x_R σ (900 + k) m0 = some (m0 + x_od k) ∧ x_K σ (m0 + x_od k) = x_kd k + 11 ∧ x_L σ (m0 + x_od k) = x_ln k
theorem x_odk {k : Nat} (h : x_kd k < 2) : 0 < x_od k ∧ x_od k ≤ 40 ∧ x_fo (x_od k) = k ∧ x_ln k ≤ 13000 := by
  by_cases hk : k < 50
  · have : ∀ k, k < 50 → x_kd k < 2 → 0 < x_od k ∧ x_od k ≤ 40 ∧ x_fo (x_od k) = k ∧ x_ln k ≤ 13000 := by decide +kernel
    exact this k hk h
  · exfalso
    unfold x_kd at h
    split at h <;> omega
theorem x_fok : ∀ j, j ≤ 40 → 0 < j → x_kd (x_fo j) < 2 ∧ x_od (x_fo j) = j := by decide +kernel
theorem x_wT_A (σ : PH) (m0 : Nat) (T : Tb) {k : Nat} (h : x_kd k < 2) (i : Nat) : x_A (x_wT σ m0 T) (m0 + x_od k) i = T k i := by
  obtain ⟨h1, h2, h3, -⟩ := x_odk h
  show (if m0 < m0 + x_od k ∧ m0 + x_od k ≤ m0 + 40 then T (x_fo (m0 + x_od k - m0)) i else _) = _
  rw [if_pos ⟨by omega, by omega⟩, Nat.add_sub_cancel_left, h3]
theorem x_wT_I (σ : PH) (m0 : Nat) (T : Tb) {k : Nat} (h : x_kd k = 2) : x_I (x_wT σ m0 T) (900 + k) m0 = T k 0 := by
  show (if m0 = m0 ∧ 900 ≤ 900 + k ∧ x_kd (900 + k - 900) = 2 then T (900 + k - 900) 0 else _) = _
  rw [Nat.add_sub_cancel_left, if_pos ⟨rfl, by omega, h⟩]
theorem x_wT_uA (σ : PH) (m0 : Nat) (T : Tb) {k : Nat} (h : x_kd k < 2) (i : Nat) (v : Int32) : x_uA (x_wT σ m0 T) (m0 + x_od k) i v = x_wT σ m0 (x_up T k i v) := by
  obtain ⟨h1, h2, h3, -⟩ := x_odk h
  have e : x_up (x_wTA σ m0 T) (m0 + x_od k) i v = x_wTA σ m0 (x_up T k i v) := by
    funext a j
    by_cases ha : m0 < a ∧ a ≤ m0 + 40
    · have r1 : ∀ T' : Tb, x_wTA σ m0 T' a j = T' (x_fo (a - m0)) j := fun T' => if_pos ha
      rw [r1]
      have q := x_fok (a - m0) (by omega) (by omega)
      by_cases hb : a = m0 + x_od k
      · subst hb
        rw [Nat.add_sub_cancel_left, h3]
        by_cases hj : j = i
        · simp [x_up, hj]
        · simp only [x_up, hj, and_false, if_false]
          rw [r1, Nat.add_sub_cancel_left, h3]
      · have hf : ¬ x_fo (a - m0) = k := by
          intro hc
          rw [hc] at q
          omega
        simp only [x_up, hb, hf, false_and, if_false]
        exact r1 T
    · have r1 : ∀ T' : Tb, x_wTA σ m0 T' a j = x_A σ a j := fun T' => if_neg ha
      have hb : ¬ a = m0 + x_od k := by omega
      rw [r1]
      simp only [x_up, hb, false_and, if_false]
      exact r1 T
  have e2 : x_wTI σ m0 T = x_wTI σ m0 (x_up T k i v) := by
    funext f a
    simp only [x_wTI]
    split
    · rename_i hc
      have : ¬ f - 900 = k := by
        intro q
        rw [q] at hc
        omega
      simp only [x_up, this, false_and, if_false]
    · rfl
  show (x_K σ, x_wTI σ m0 T, x_R σ, x_up (x_wTA σ m0 T) (m0 + x_od k) i v, x_Q σ, x_L σ, x_N σ, x_U σ) = _
  rw [e, e2]
  rfl
theorem x_wT_uI (σ : PH) (m0 : Nat) (T : Tb) {k : Nat} (h : x_kd k = 2) (v : Int32) : x_uI (x_wT σ m0 T) (900 + k) m0 v = x_wT σ m0 (x_up T k 0 v) := by
  have e : x_up (x_wTI σ m0 T) (900 + k) m0 v = x_wTI σ m0 (x_up T k 0 v) := by
    funext f a
    by_cases hc : a = m0 ∧ 900 ≤ f ∧ x_kd (f - 900) = 2
    · have r1 : ∀ T' : Tb, x_wTI σ m0 T' f a = T' (f - 900) 0 := fun T' => if_pos hc
      rw [r1]
      by_cases hf : f = 900 + k
      · have : f - 900 = k := by omega
        simp [x_up, hf, hc.1]
      · have : ¬ f - 900 = k := by omega
        simp only [x_up, hf, this, false_and, if_false]
        exact r1 T
    · have r1 : ∀ T' : Tb, x_wTI σ m0 T' f a = x_I σ f a := fun T' => if_neg hc
      rw [r1]
      have : ¬ (f = 900 + k ∧ a = m0) := by
        rintro ⟨rfl, rfl⟩
        exact hc ⟨rfl, by omega, by rw [Nat.add_sub_cancel_left]; exact h⟩
      simp only [x_up, this, if_false]
      exact r1 T
  have e2 : x_wTA σ m0 T = x_wTA σ m0 (x_up T k 0 v) := by
    funext a i
    simp only [x_wTA]
    split
    · rename_i hc
      have q := x_fok (a - m0) (by omega) (by omega)
      have : ¬ x_fo (a - m0) = k := by
        intro z
        rw [z] at q
        omega
      simp only [x_up, this, false_and, if_false]
    · rfl
  show (x_K σ, x_up (x_wTI σ m0 T) (900 + k) m0 v, x_R σ, x_wTA σ m0 T, x_Q σ, x_L σ, x_N σ, x_U σ) = _
  rw [e, e2]
  rfl
def simT {α : Type} (σ : PH) (m0 : Nat) (f : PM α) (g : TM α) : Prop := ∀ T : Tb, x_rn f (x_wT σ m0 T) = (g T).map (fun q => (q.1, x_wT σ m0 q.2))
section XT
variable {σ : PH} {m0 : Nat} {α β : Type}
theorem sT_pr (a : α) : simT σ m0 (x_pr a) (t_pr a) := fun _ => rfl
theorem sT_fl : simT σ m0 (x_fl : PM α) t_fl := fun _ => rfl
theorem sT_bd {f : PM α} {f' : TM α} {g : α → PM β} {g' : α → TM β} (h1 : simT σ m0 f f') (h2 : ∀ a, simT σ m0 (g a) (g' a)) : simT σ m0 (x_bd f g) (t_bd f' g') := by
  intro T
  rw [rn_bd, h1 T]
  unfold t_bd
  cases f' T with
  | none => rfl
  | some q => exact h2 q.1 q.2
theorem sT_ite {c : Prop} [Decidable c] {A B : PM α} {A' B' : TM α} (h1 : simT σ m0 A A') (h2 : simT σ m0 B B') : simT σ m0 (if c then A else B) (if c then A' else B') := by
  split
  · exact h1
  · exact h2
theorem sT_rR (h : x_Ks σ m0) {k : Nat} (hk : decide (x_kd k < 2) = true) {g : Option Nat → PM α} {g' : TM α} (h2 : simT σ m0 (g (some (m0 + x_od k))) g') : simT σ m0 (x_bd (x_rR (some m0) 9 k) g) g' := by
  intro T
  rw [rn_bd, rn_rR (σ := x_wT σ m0 T) (ci := 9) k h.1]
  have e : x_R (x_wT σ m0 T) (100 * 9 + k) m0 = some (m0 + x_od k) := (h.2 k (of_decide_eq_true hk)).1
  rw [e]
  exact h2 T
theorem sT_g (h : x_Ks σ m0) (k : Nat) (hk : x_kd k = 2 := by rfl) : simT σ m0 (x_rI (some m0) 9 k) (t_g k) := by
  intro T
  rw [rn_rI (σ := x_wT σ m0 T) (ci := 9) k h.1]
  have e : x_I (x_wT σ m0 T) (100 * 9 + k) m0 = T k 0 := x_wT_I σ m0 T hk
  rw [e]
  rfl
theorem sT_p (h : x_Ks σ m0) (k : Nat) (v : Int32) (hk : x_kd k = 2 := by rfl) : simT σ m0 (x_wI (some m0) 9 k v) (t_p k v) := by
  intro T
  rw [rn_wI (σ := x_wT σ m0 T) (ci := 9) k v h.1]
  have e : x_uI (x_wT σ m0 T) (100 * 9 + k) m0 v = x_wT σ m0 (x_up T k 0 v) := x_wT_uI σ m0 T hk v
  rw [e]
  rfl
theorem sT_a (h : x_Ks σ m0) {k kd : Nat} (hk : decide (x_kd k < 2 ∧ x_kd k = kd) = true) (i : Int32) : simT σ m0 (x_aI kd (some (m0 + x_od k)) i) (t_a k i) := by
  intro T
  obtain ⟨hk1, rfl⟩ := of_decide_eq_true hk
  obtain ⟨-, h2, h3⟩ := h.2 k hk1
  unfold x_aI t_a
  rw [rn_ask]
  have h2' : x_K (x_wT σ m0 T) (m0 + x_od k) = x_kd k + 11 := h2
  have h3' : x_L (x_wT σ m0 T) (m0 + x_od k) = x_ln k := h3
  simp only [x_ix, h2', h3', true_and]
  by_cases hi : i < 0 ∨ x_ln k ≤ i.toNatClampNeg
  · simp only [hi, not_true_eq_false, if_false, if_true]; rfl
  · simp only [hi, not_false_eq_true, if_true, if_false]
    simp only [Option.map_some, x_wT_A σ m0 T hk1]
theorem sT_s (h : x_Ks σ m0) {k : Nat} (hk : x_kd k = 0) (_hk : True = True) (i v : Int32) : simT σ m0 (x_sI (some (m0 + x_od k)) i v) (t_s k i v) := by
  intro T
  have hk1 : x_kd k < 2 := by omega
  obtain ⟨-, h2, h3⟩ := h.2 k hk1
  unfold x_sI t_s
  rw [rn_put]
  have h2' : x_K (x_wT σ m0 T) (m0 + x_od k) = 11 := by rw [hk] at h2; exact h2
  have h3' : x_L (x_wT σ m0 T) (m0 + x_od k) = x_ln k := h3
  simp only [x_ix, h2', h3', true_and]
  by_cases hi : i < 0 ∨ x_ln k ≤ i.toNatClampNeg
  · simp only [hi, not_true_eq_false, if_false, if_true]; rfl
  · simp only [hi, not_false_eq_true, if_true, if_false]
    simp only [Option.map_some, x_wT_uA σ m0 T hk1]
theorem sT_z (h : x_Ks σ m0) {k : Nat} (hk : x_kd k = 1) (_hk : True = True) (i v : Int32) : simT σ m0 (x_sZ (some (m0 + x_od k)) i v) (t_z k i v) := by
  intro T
  have hk1 : x_kd k < 2 := by omega
  obtain ⟨-, h2, h3⟩ := h.2 k hk1
  unfold x_sZ t_z
  rw [rn_put]
  have h2' : x_K (x_wT σ m0 T) (m0 + x_od k) = 12 := by rw [hk] at h2; exact h2
  have h3' : x_L (x_wT σ m0 T) (m0 + x_od k) = x_ln k := h3
  by_cases hv : v = 0 ∨ v = 1
  · simp only [hv, if_true, x_ix, h2', h3', true_and]
    by_cases hi : i < 0 ∨ x_ln k ≤ i.toNatClampNeg
    · simp only [hi, not_true_eq_false, if_false, if_true]; rfl
    · simp only [hi, not_false_eq_true, if_true, if_false]
      simp only [Option.map_some, x_wT_uA σ m0 T hk1]
  · simp only [hv, if_false]; rfl
theorem sT_cV (h : x_Ks σ m0) {f : PM α} {f' : TM α} (h1 : simT σ m0 f f') : simT σ m0 (x_cV (some m0) 9 f) f' := by
  intro T
  rw [rn_cV (σ := x_wT σ m0 T) (ci := 9) f h.1]
  exact h1 T
end XT
