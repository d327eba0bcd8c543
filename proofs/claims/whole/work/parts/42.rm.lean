/-- the reference beside it: its rows are T -/
def RM (b : Nat) (T : Tb) (σ : PH) : Prop := x_Ks σ (b + 12) ∧ (∀ k, x_kd k = 2 → x_I σ (900 + k) (b + 12) = T k 0) ∧ (∀ k, x_kd k < 2 → ∀ i, x_A σ (b + 12 + x_od k) i = T k i)
theorem x_od_lt {k : Nat} (hk : x_kd k < 2) : 0 < x_od k ∧ x_od k ≤ 40 := ⟨(x_odk hk).1, (x_odk hk).2.1⟩
theorem RM.eq {b : Nat} {T : Tb} {σ : PH} (h : RM b T σ) : x_wT σ (b + 12) T = σ := by
  obtain ⟨-, h1, h2⟩ := h
  have e1 : x_wTI σ (b + 12) T = x_I σ := by
    funext f a
    simp only [x_wTI]
    split
    · rename_i hc
      have := h1 (f - 900) hc.2.2
      rw [show 900 + (f - 900) = f by omega] at this
      rw [hc.1, this]
    · rfl
  have e2 : x_wTA σ (b + 12) T = x_A σ := by
    funext a i
    simp only [x_wTA]
    split
    · rename_i hc
      have q := x_fok (a - (b + 12)) (by omega) (by omega)
      have := h2 _ q.1 i
      rw [q.2, show b + 12 + (a - (b + 12)) = a by omega] at this
      exact this.symm
    · rfl
  show (x_K σ, x_wTI σ (b + 12) T, x_R σ, x_wTA σ (b + 12) T, x_Q σ, x_L σ, x_N σ, x_U σ) = _
  rw [e1, e2]
  rfl
theorem RM.uI {b : Nat} {T : Tb} {σ : PH} (h : RM b T σ) {f a : Nat} (v : Int32) (hf : f < 900) : RM b T (x_uI σ f a v) := by
  refine ⟨h.1, fun k hk => ?_, h.2.2⟩
  rw [I_uI, if_neg (by omega)]
  exact h.2.1 k hk
theorem RM.uR {b : Nat} {T : Tb} {σ : PH} (h : RM b T σ) {f a : Nat} (v : Option Nat) (hf : f < 900) : RM b T (x_uR σ f a v) := by
  refine ⟨⟨h.1.1, fun k hk => ?_⟩, h.2.1, h.2.2⟩
  obtain ⟨h1, h2, h3⟩ := h.1.2 k hk
  refine ⟨?_, h2, h3⟩
  rw [R_uR, if_neg (by omega)]
  exact h1
theorem RM.uQ {b : Nat} {T : Tb} {σ : PH} (h : RM b T σ) (a i : Nat) (v : Option Nat) : RM b T (x_uQ σ a i v) := h
theorem RM.uA {b : Nat} {T : Tb} {σ : PH} (h : RM b T σ) {a i : Nat} (v : Int32) (ha : a ≤ b + 12 ∨ b + 53 ≤ a) : RM b T (x_uA σ a i v) := by
  refine ⟨h.1, h.2.1, fun k hk j => ?_⟩
  have := x_od_lt hk
  rw [A_uA, if_neg (by omega)]
  exact h.2.2 k hk j
theorem RM.nO {b : Nat} {T : Tb} {σ : PH} (h : RM b T σ) (hN : b + 53 ≤ x_N σ) (ci : Nat) : RM b T (x_nO σ ci) := by
  refine ⟨⟨?_, fun k hk => ?_⟩, fun k hk => ?_, h.2.2⟩
  · rw [K_nO, if_neg (by omega)]; exact h.1.1
  · obtain ⟨h1, h2, h3⟩ := h.1.2 k hk
    have := x_od_lt hk
    refine ⟨?_, ?_, h3⟩
    · rw [R_nO, if_neg (by omega)]; exact h1
    · rw [K_nO, if_neg (by omega)]; exact h2
  · rw [I_nO, if_neg (by omega)]; exact h.2.1 k hk
theorem RM.nA {b : Nat} {T : Tb} {σ : PH} (h : RM b T σ) (hN : b + 53 ≤ x_N σ) (kd n : Nat) : RM b T (x_nA σ kd n) := by
  refine ⟨⟨?_, fun k hk => ?_⟩, h.2.1, fun k hk i => ?_⟩
  · rw [K_nA, if_neg (by omega)]; exact h.1.1
  · obtain ⟨h1, h2, h3⟩ := h.1.2 k hk
    have := x_od_lt hk
    refine ⟨h1, ?_, ?_⟩
    · rw [K_nA, if_neg (by omega)]; exact h2
    · rw [L_nA, if_neg (by omega)]; exact h3
  · have := x_od_lt hk
    rw [A_nA, if_neg (by omega)]; exact h.2.2 k hk i
/-- the reference's step in a store that holds its rows -/
theorem RM.run {α : Type} {b : Nat} {T T' : Tb} {σ : PH} {f : PM α} {g : TM α} {r : α} (h : RM b T σ) (hs : x_Ks σ (b + 12) → simT σ (b + 12) f g) (hg : g T = some (r, T')) : x_rn f σ = some (r, x_wT σ (b + 12) T') := by
  have e := hs h.1 T
  rw [h.eq, hg] at e
  exact e
theorem RM.wT {b : Nat} {T : Tb} {σ : PH} (h : RM b T σ) (T' : Tb) : RM b T' (x_wT σ (b + 12) T') := ⟨h.1, fun _ hk => x_wT_I _ _ _ hk, fun _ hk i => x_wT_A _ _ _ hk i⟩
theorem x_wT_Il (σ : PH) (b f a : Nat) (T : Tb) (hf : f < 900) : x_I (x_wT σ (b + 12) T) f a = x_I σ f a := if_neg (by omega)
theorem x_wT_Al (σ : PH) (b a i : Nat) (T : Tb) (ha : a ≤ b + 12 ∨ b + 53 ≤ a) : x_A (x_wT σ (b + 12) T) a i = x_A σ a i := if_neg (by omega)
