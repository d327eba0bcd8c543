/-! The pure store: kinds of cells (0 none, 1 + class number, 11 + array kind), fields by number and address, rows of arrays by address, lengths, the next address, the slots used -/
abbrev PH : Type := (Nat → Nat) × (Nat → Nat → Int32) × (Nat → Nat → Option Nat) × (Nat → Nat → Int32) × (Nat → Nat → Option Nat) × (Nat → Nat) × Nat × Nat
def x_K (σ : PH) : Nat → Nat := σ.1
def x_I (σ : PH) : Nat → Nat → Int32 := σ.2.1
def x_R (σ : PH) : Nat → Nat → Option Nat := σ.2.2.1
def x_A (σ : PH) : Nat → Nat → Int32 := σ.2.2.2.1
def x_Q (σ : PH) : Nat → Nat → Option Nat := σ.2.2.2.2.1
def x_L (σ : PH) : Nat → Nat := σ.2.2.2.2.2.1
def x_N (σ : PH) : Nat := σ.2.2.2.2.2.2.1
def x_U (σ : PH) : Nat := σ.2.2.2.2.2.2.2
def x_up {α : Type} (f : Nat → Nat → α) (i j : Nat) (v : α) : Nat → Nat → α := fun x y => if x = i ∧ y = j then v else f x y
def x_uI (σ : PH) (f a : Nat) (v : Int32) : PH := (x_K σ, x_up (x_I σ) f a v, x_R σ, x_A σ, x_Q σ, x_L σ, x_N σ, x_U σ)
def x_uR (σ : PH) (f a : Nat) (v : Option Nat) : PH := (x_K σ, x_I σ, x_up (x_R σ) f a v, x_A σ, x_Q σ, x_L σ, x_N σ, x_U σ)
def x_uA (σ : PH) (a i : Nat) (v : Int32) : PH := (x_K σ, x_I σ, x_R σ, x_up (x_A σ) a i v, x_Q σ, x_L σ, x_N σ, x_U σ)
def x_uQ (σ : PH) (a i : Nat) (v : Option Nat) : PH := (x_K σ, x_I σ, x_R σ, x_A σ, x_up (x_Q σ) a i v, x_L σ, x_N σ, x_U σ)
def x_nO (σ : PH) (ci : Nat) : PH := (fun x => if x = x_N σ then ci + 1 else x_K σ x, fun f x => if x = x_N σ then 0 else x_I σ f x, fun f x => if x = x_N σ then none else x_R σ f x, x_A σ, x_Q σ, x_L σ, x_N σ + 1, x_U σ + x_nf ci)
def x_nA (σ : PH) (kd n : Nat) : PH := (fun x => if x = x_N σ then kd + 11 else x_K σ x, x_I σ, x_R σ, fun x i => if x = x_N σ then 0 else x_A σ x i, fun x i => if x = x_N σ then none else x_Q σ x i, fun x => if x = x_N σ then n else x_L σ x, x_N σ + 1, x_U σ + n)
/-- a step that may fail; it never gives cells or slots back -/
def x_mono {α : Type} (f : PH → Option (α × PH)) : Prop := ∀ (σ : PH) (a : α) (τ : PH), f σ = some (a, τ) → x_N σ ≤ x_N τ ∧ x_U σ ≤ x_U τ
abbrev PM (α : Type) : Type := { f : PH → Option (α × PH) // x_mono f }
def x_rn {α : Type} (f : PM α) (σ : PH) : Option (α × PH) := f.1 σ
def x_bdf {α β : Type} (f : PM α) (g : α → PM β) : PH → Option (β × PH) := fun σ => match f.1 σ with
  | none => none
  | some (a, τ) => (g a).1 τ
theorem x_bdm {α β : Type} (f : PM α) (g : α → PM β) : x_mono (x_bdf f g) := by
  intro σ b τ h
  unfold x_bdf at h
  cases hf : f.1 σ with
  | none => rw [hf] at h; cases h
  | some q =>
    obtain ⟨a, ρ⟩ := q
    rw [hf] at h
    have h1 := f.2 σ a ρ hf
    have h2 := (g a).2 ρ b τ h
    omega
def x_bd {α β : Type} (f : PM α) (g : α → PM β) : PM β := ⟨x_bdf f g, x_bdm f g⟩
def x_pr {α : Type} (a : α) : PM α := ⟨fun σ => some (a, σ), fun σ b τ h => by cases h; exact ⟨Nat.le_refl _, Nat.le_refl _⟩⟩
def x_fl {α : Type} : PM α := ⟨fun _ => none, fun σ b τ h => by cases h⟩
/-- a look at the store -/
def x_ask {α : Type} (g : PH → Option α) : PM α := ⟨fun σ => match g σ with
  | none => none
  | some a => some (a, σ), fun σ b τ h => by
    cases hg : g σ with
    | none => simp only [hg] at h; cases h
    | some a => simp only [hg] at h; cases h; exact ⟨Nat.le_refl _, Nat.le_refl _⟩⟩
/-- a change of the store that makes nothing -/
def x_put (g : PH → Option PH) (hg : ∀ σ τ, g σ = some τ → x_N τ = x_N σ ∧ x_U τ = x_U σ) : PM Unit := ⟨fun σ => match g σ with
  | none => none
  | some τ => some ((), τ), fun σ b τ h => by
    cases hh : g σ with
    | none => simp only [hh] at h; cases h
    | some ρ => simp only [hh] at h; cases h; have := hg σ τ hh; omega⟩
/-- the address of a reference whose cell is of the kind -/
def x_dr (σ : PH) (r : Option Nat) (kd : Nat) : Option Nat := match r with
  | none => none
  | some a => if x_K σ a = kd then some a else none
def x_ix (σ : PH) (r : Option Nat) (kd : Nat) (i : Int32) : Option Nat := match r with
  | none => none
  | some a => if x_K σ a = kd ∧ ¬ (i < 0 ∨ x_L σ a ≤ i.toNatClampNeg) then some a else none
theorem x_dr_some {σ : PH} {r : Option Nat} {kd a : Nat} (h : x_dr σ r kd = some a) : r = some a ∧ x_K σ a = kd := by
  cases r with
  | none => cases h
  | some b =>
    simp only [x_dr] at h
    split at h
    · cases h; exact ⟨rfl, by assumption⟩
    · cases h
theorem x_ix_some {σ : PH} {r : Option Nat} {kd a : Nat} {i : Int32} (h : x_ix σ r kd i = some a) : r = some a ∧ x_K σ a = kd ∧ vp_in i (x_L σ a) := by
  cases r with
  | none => cases h
  | some b =>
    simp only [x_ix] at h
    split at h
    · rename_i hc; cases h; exact ⟨rfl, hc.1, hc.2⟩
    · cases h
theorem x_map_some {α β : Type} {o : Option α} {f : α → β} {b : β} (h : o.map f = some b) : ∃ a, o = some a ∧ f a = b := by
  cases o with
  | none => cases h
  | some a => exact ⟨a, rfl, Option.some.inj h⟩
def x_rI (r : Option Nat) (ci k : Nat) : PM Int32 := x_ask (fun σ => (x_dr σ r (ci + 1)).map (fun a => x_I σ (100 * ci + k) a))
def x_rR (r : Option Nat) (ci k : Nat) : PM (Option Nat) := x_ask (fun σ => (x_dr σ r (ci + 1)).map (fun a => x_R σ (100 * ci + k) a))
def x_wI (r : Option Nat) (ci k : Nat) (v : Int32) : PM Unit := x_put (fun σ => (x_dr σ r (ci + 1)).map (fun a => x_uI σ (100 * ci + k) a v)) (fun σ τ h => by
  obtain ⟨a, -, rfl⟩ := x_map_some h
  exact ⟨rfl, rfl⟩)
def x_wZ (r : Option Nat) (ci k : Nat) (v : Int32) : PM Unit := x_put (fun σ => if v = 0 ∨ v = 1 then (x_dr σ r (ci + 1)).map (fun a => x_uI σ (100 * ci + k) a v) else none) (fun σ τ h => by
  split at h
  · obtain ⟨a, -, rfl⟩ := x_map_some h
    exact ⟨rfl, rfl⟩
  · cases h)
def x_wR (r : Option Nat) (ci k : Nat) (v : Option Nat) : PM Unit := x_put (fun σ => (x_dr σ r (ci + 1)).map (fun a => x_uR σ (100 * ci + k) a v)) (fun σ τ h => by
  obtain ⟨a, -, rfl⟩ := x_map_some h
  exact ⟨rfl, rfl⟩)
/-- arrays: kinds 0 int, 1 boolean, 2 Counter, 3 Message, 4 Order, 5 Wire -/
def x_aI (kd : Nat) (r : Option Nat) (i : Int32) : PM Int32 := x_ask (fun σ => (x_ix σ r (kd + 11) i).map (fun a => x_A σ a i.toNatClampNeg))
def x_aQ (kd : Nat) (r : Option Nat) (i : Int32) : PM (Option Nat) := x_ask (fun σ => (x_ix σ r (kd + 11) i).map (fun a => x_Q σ a i.toNatClampNeg))
def x_aL (kd : Nat) (r : Option Nat) : PM Int32 := x_ask (fun σ => (x_dr σ r (kd + 11)).map (fun a => Int32.ofNat (x_L σ a)))
def x_sI (r : Option Nat) (i v : Int32) : PM Unit := x_put (fun σ => (x_ix σ r 11 i).map (fun a => x_uA σ a i.toNatClampNeg v)) (fun σ τ h => by
  obtain ⟨a, -, rfl⟩ := x_map_some h
  exact ⟨rfl, rfl⟩)
def x_sZ (r : Option Nat) (i v : Int32) : PM Unit := x_put (fun σ => if v = 0 ∨ v = 1 then (x_ix σ r 12 i).map (fun a => x_uA σ a i.toNatClampNeg v) else none) (fun σ τ h => by
  split at h
  · obtain ⟨a, -, rfl⟩ := x_map_some h
    exact ⟨rfl, rfl⟩
  · cases h)
def x_fit (σ : PH) (v : Option Nat) (ci : Nat) : Bool := match v with
  | none => true
  | some b => x_K σ b == ci + 1
def x_sQ (kd ci : Nat) (r : Option Nat) (i : Int32) (v : Option Nat) : PM Unit := x_put (fun σ => if x_fit σ v ci = true then (x_ix σ r (kd + 11) i).map (fun a => x_uQ σ a i.toNatClampNeg v) else none) (fun σ τ h => by
  split at h
  · obtain ⟨a, -, rfl⟩ := x_map_some h
    exact ⟨rfl, rfl⟩
  · cases h)
def x_mO (ci : Nat) : PM (Option Nat) := ⟨fun σ => some (some (x_N σ), x_nO σ ci), fun σ b τ h => by cases h; exact ⟨Nat.le_succ _, Nat.le_add_right _ _⟩⟩
def x_mA (kd : Nat) (n : Int32) : PM (Option Nat) := ⟨fun σ => if n < 0 ∨ 65536 < n.toNatClampNeg then none else some (some (x_N σ), x_nA σ kd n.toNatClampNeg), fun σ b τ h => by
  simp only at h
  split at h
  · cases h
  · cases h; exact ⟨Nat.le_succ _, Nat.le_add_right _ _⟩⟩
def x_ck (r : Option Nat) (ci : Nat) : PM Unit := x_ask (fun σ => (x_dr σ r (ci + 1)).map (fun _ => ()))
def x_cV {α : Type} (r : Option Nat) (ci : Nat) (f : PM α) : PM α := x_bd (x_ck r ci) (fun _ => f)
def x_rem (x y : Int32) : Int32 := x - x / y * y
def x_lrem (x y : Int64) : Int64 := x - x / y * y
def x_max (x y : Int32) : Int32 := if x < y then y else x
def x_min (x y : Int32) : Int32 := if y < x then y else x
/-! what a run of a step that came through says -/
theorem x_okB {α β : Type} {f : PM α} {g : α → PM β} {σ : PH} {z : β × PH} (h : x_rn (x_bd f g) σ = some z) : ∃ a τ, x_rn f σ = some (a, τ) ∧ x_rn (g a) τ = some z := by
  have h' : x_bdf f g σ = some z := h
  unfold x_bdf at h'
  cases hf : f.1 σ with
  | none => rw [hf] at h'; cases h'
  | some q =>
    obtain ⟨a, ρ⟩ := q
    rw [hf] at h'
    exact ⟨a, ρ, hf, h'⟩
theorem x_okA {α β : Type} {q : PH → Option α} {g : α → PM β} {σ : PH} {z : β × PH} (h : x_rn (x_bd (x_ask q) g) σ = some z) : ∃ a, q σ = some a ∧ x_rn (g a) σ = some z := by
  obtain ⟨a, τ, h1, h2⟩ := x_okB h
  have h1' : (match q σ with
    | none => none
    | some a => some (a, σ)) = some (a, τ) := h1
  cases hq : q σ with
  | none => rw [hq] at h1'; cases h1'
  | some b => rw [hq] at h1'; cases h1'; exact ⟨_, rfl, h2⟩
theorem x_okP {β : Type} {q : PH → Option PH} {hg} {g : Unit → PM β} {σ : PH} {z : β × PH} (h : x_rn (x_bd (x_put q hg) g) σ = some z) : ∃ τ, q σ = some τ ∧ x_rn (g ()) τ = some z := by
  obtain ⟨a, τ, h1, h2⟩ := x_okB h
  have h1' : (match q σ with
    | none => none
    | some ρ => some ((), ρ)) = some (a, τ) := h1
  cases hq : q σ with
  | none => rw [hq] at h1'; cases h1'
  | some b => rw [hq] at h1'; cases h1'; exact ⟨_, rfl, h2⟩
theorem x_okR {α : Type} {a : α} {σ : PH} {z : α × PH} (h : x_rn (x_pr a) σ = some z) : z = (a, σ) := by
  cases h; rfl
theorem x_okN {α β : Type} {a : α} {g : α → PM β} {σ : PH} {z : β × PH} (h : x_rn (x_bd (x_pr a) g) σ = some z) : x_rn (g a) σ = some z := h
theorem x_okM {α : Type} {f : PM α} {σ : PH} {z : α × PH} (h : x_rn f σ = some z) : x_N σ ≤ x_N z.2 ∧ x_U σ ≤ x_U z.2 := f.2 σ z.1 z.2 h
theorem x_okT {α : Type} {c : Prop} [Decidable c] {A B : PM α} {σ : PH} {z : α × PH} (h : x_rn (if c then A else B) σ = some z) (hc : c) : x_rn A σ = some z := by
  rwa [if_pos hc] at h
theorem x_okF {α : Type} {c : Prop} [Decidable c] {A B : PM α} {σ : PH} {z : α × PH} (h : x_rn (if c then A else B) σ = some z) (hc : ¬ c) : x_rn B σ = some z := by
  rwa [if_neg hc] at h
