theorem rn_bd {α β : Type} (f : PM α) (g : α → PM β) (σ : PH) : x_rn (x_bd f g) σ = (x_rn f σ).bind (fun q => x_rn (g q.1) q.2) := by
  show x_bdf f g σ = _
  unfold x_bdf x_rn
  cases f.1 σ with
  | none => rfl
  | some q => rfl
theorem rn_pr {α : Type} (a : α) (σ : PH) : x_rn (x_pr a) σ = some (a, σ) := rfl
theorem rn_fl {α : Type} (σ : PH) : x_rn (x_fl : PM α) σ = none := rfl
theorem rn_ite {α : Type} (c : Prop) [Decidable c] (A B : PM α) (σ : PH) : x_rn (if c then A else B) σ = if c then x_rn A σ else x_rn B σ := by
  split <;> rfl
theorem rn_ask {α : Type} (g : PH → Option α) (σ : PH) : x_rn (x_ask g) σ = (g σ).map (fun a => (a, σ)) := by
  unfold x_rn x_ask
  dsimp only
  cases g σ <;> rfl
theorem rn_put (g : PH → Option PH) (hg) (σ : PH) : x_rn (x_put g hg) σ = (g σ).map (fun τ => ((), τ)) := by
  unfold x_rn x_put
  dsimp only
  cases g σ <;> rfl
theorem rn_rI {σ : PH} {a ci : Nat} (k : Nat) (h : x_K σ a = ci + 1) : x_rn (x_rI (some a) ci k) σ = some (x_I σ (100 * ci + k) a, σ) := by
  unfold x_rI
  rw [rn_ask]
  simp [x_dr, h]
theorem rn_rR {σ : PH} {a ci : Nat} (k : Nat) (h : x_K σ a = ci + 1) : x_rn (x_rR (some a) ci k) σ = some (x_R σ (100 * ci + k) a, σ) := by
  unfold x_rR
  rw [rn_ask]
  simp [x_dr, h]
theorem rn_wI {σ : PH} {a ci : Nat} (k : Nat) (v : Int32) (h : x_K σ a = ci + 1) : x_rn (x_wI (some a) ci k v) σ = some ((), x_uI σ (100 * ci + k) a v) := by
  unfold x_wI
  rw [rn_put]
  simp [x_dr, h]
theorem rn_wZ {σ : PH} {a ci : Nat} (k : Nat) (v : Int32) (h : x_K σ a = ci + 1) (hv : v = 0 ∨ v = 1) : x_rn (x_wZ (some a) ci k v) σ = some ((), x_uI σ (100 * ci + k) a v) := by
  unfold x_wZ
  rw [rn_put]
  rw [if_pos hv]
  simp [x_dr, h]
theorem rn_wZ1 {σ : PH} {a ci : Nat} (k : Nat) (h : x_K σ a = ci + 1) : x_rn (x_wZ (some a) ci k 1) σ = some ((), x_uI σ (100 * ci + k) a 1) := rn_wZ k 1 h (Or.inr rfl)
theorem rn_wR {σ : PH} {a ci : Nat} (k : Nat) (v : Option Nat) (h : x_K σ a = ci + 1) : x_rn (x_wR (some a) ci k v) σ = some ((), x_uR σ (100 * ci + k) a v) := by
  unfold x_wR
  rw [rn_put]
  simp [x_dr, h]
theorem x_inI {j n : Nat} (h : j < n) (hn : n < 2147483648) : ¬ (nI j < 0 ∨ n ≤ (nI j).toNatClampNeg) := by
  have h1 : (nI j).toNatClampNeg = j := nI_clamp (by omega)
  have h2 : ¬ nI j < 0 := nI_pos (by omega)
  rw [h1]
  rintro (q | q)
  · exact h2 q
  · omega
theorem x_clj {j : Nat} (h : j < 2147483648) : (nI j).toNatClampNeg = j := nI_clamp (by omega)
theorem rn_aI {σ : PH} {a kd j : Nat} (h : x_K σ a = kd + 11) (hj : j < x_L σ a) (hn : x_L σ a < 2147483648) : x_rn (x_aI kd (some a) (nI j)) σ = some (x_A σ a j, σ) := by
  unfold x_aI
  rw [rn_ask]
  have h1 : ¬ (nI j < 0 ∨ x_L σ a ≤ (nI j).toNatClampNeg) := x_inI hj hn
  simp only [x_ix, h, true_and, h1, if_true, Option.map_some, not_false_eq_true]
  rw [x_clj (by omega)]
theorem rn_aQ {σ : PH} {a kd j : Nat} (h : x_K σ a = kd + 11) (hj : j < x_L σ a) (hn : x_L σ a < 2147483648) : x_rn (x_aQ kd (some a) (nI j)) σ = some (x_Q σ a j, σ) := by
  unfold x_aQ
  rw [rn_ask]
  have h1 : ¬ (nI j < 0 ∨ x_L σ a ≤ (nI j).toNatClampNeg) := x_inI hj hn
  simp only [x_ix, h, true_and, h1, if_true, Option.map_some, not_false_eq_true]
  rw [x_clj (by omega)]
theorem rn_aL {σ : PH} {a kd : Nat} (h : x_K σ a = kd + 11) : x_rn (x_aL kd (some a)) σ = some (nI (x_L σ a), σ) := by
  unfold x_aL
  rw [rn_ask]
  simp [x_dr, h, nI]
theorem rn_sI {σ : PH} {a j : Nat} (v : Int32) (h : x_K σ a = 11) (hj : j < x_L σ a) (hn : x_L σ a < 2147483648) : x_rn (x_sI (some a) (nI j) v) σ = some ((), x_uA σ a j v) := by
  unfold x_sI
  rw [rn_put]
  have h1 : ¬ (nI j < 0 ∨ x_L σ a ≤ (nI j).toNatClampNeg) := x_inI hj hn
  simp only [x_ix, h, true_and, h1, if_true, Option.map_some, not_false_eq_true]
  rw [x_clj (by omega)]
theorem rn_sZ {σ : PH} {a j : Nat} (v : Int32) (h : x_K σ a = 12) (hj : j < x_L σ a) (hn : x_L σ a < 2147483648) (hv : v = 0 ∨ v = 1) : x_rn (x_sZ (some a) (nI j) v) σ = some ((), x_uA σ a j v) := by
  unfold x_sZ
  rw [rn_put]
  rw [if_pos hv]
  have h1 : ¬ (nI j < 0 ∨ x_L σ a ≤ (nI j).toNatClampNeg) := x_inI hj hn
  simp only [x_ix, h, true_and, h1, if_true, Option.map_some, not_false_eq_true]
  rw [x_clj (by omega)]
theorem rn_sZ1 {σ : PH} {a j : Nat} (h : x_K σ a = 12) (hj : j < x_L σ a) (hn : x_L σ a < 2147483648) : x_rn (x_sZ (some a) (nI j) 1) σ = some ((), x_uA σ a j 1) := rn_sZ 1 h hj hn (Or.inr rfl)
theorem rn_sQ {σ : PH} {a j kd ci : Nat} (v : Option Nat) (h : x_K σ a = kd + 11) (hj : j < x_L σ a) (hn : x_L σ a < 2147483648) (hv : x_fit σ v ci = true) : x_rn (x_sQ kd ci (some a) (nI j) v) σ = some ((), x_uQ σ a j v) := by
  unfold x_sQ
  rw [rn_put]
  rw [if_pos hv]
  have h1 : ¬ (nI j < 0 ∨ x_L σ a ≤ (nI j).toNatClampNeg) := x_inI hj hn
  simp only [x_ix, h, true_and, h1, if_true, Option.map_some, not_false_eq_true]
  rw [x_clj (by omega)]
theorem rn_mO (ci : Nat) (σ : PH) : x_rn (x_mO ci) σ = some (some (x_N σ), x_nO σ ci) := rfl
theorem rn_mA (kd n : Nat) (σ : PH) (h : n ≤ 65536) : x_rn (x_mA kd (nI n)) σ = some (some (x_N σ), x_nA σ kd n) := by
  show (if nI n < 0 ∨ 65536 < (nI n).toNatClampNeg then none else some (some (x_N σ), x_nA σ kd (nI n).toNatClampNeg)) = _
  have h2 : ¬ nI n < 0 := nI_pos (by omega)
  rw [x_clj (by omega), if_neg]
  rintro (q | q)
  · exact h2 q
  · omega
theorem rn_cV {α : Type} {σ : PH} {a ci : Nat} (f : PM α) (h : x_K σ a = ci + 1) : x_rn (x_cV (some a) ci f) σ = x_rn f σ := by
  unfold x_cV
  rw [rn_bd]
  have : x_rn (x_ck (some a) ci) σ = some ((), σ) := by
    unfold x_ck
    rw [rn_ask]
    simp [x_dr, h]
  rw [this]
  rfl
theorem K_uI (σ : PH) (f a : Nat) (v : Int32) : x_K (x_uI σ f a v) = x_K σ := rfl
theorem I_uI (σ : PH) (f a : Nat) (v : Int32) (g b : Nat) : x_I (x_uI σ f a v) g b = if g = f ∧ b = a then v else x_I σ g b := rfl
theorem R_uI (σ : PH) (f a : Nat) (v : Int32) : x_R (x_uI σ f a v) = x_R σ := rfl
theorem A_uI (σ : PH) (f a : Nat) (v : Int32) : x_A (x_uI σ f a v) = x_A σ := rfl
theorem Q_uI (σ : PH) (f a : Nat) (v : Int32) : x_Q (x_uI σ f a v) = x_Q σ := rfl
theorem L_uI (σ : PH) (f a : Nat) (v : Int32) : x_L (x_uI σ f a v) = x_L σ := rfl
theorem N_uI (σ : PH) (f a : Nat) (v : Int32) : x_N (x_uI σ f a v) = x_N σ := rfl
theorem U_uI (σ : PH) (f a : Nat) (v : Int32) : x_U (x_uI σ f a v) = x_U σ := rfl
theorem K_uR (σ : PH) (f a : Nat) (v : Option Nat) : x_K (x_uR σ f a v) = x_K σ := rfl
theorem I_uR (σ : PH) (f a : Nat) (v : Option Nat) : x_I (x_uR σ f a v) = x_I σ := rfl
theorem R_uR (σ : PH) (f a : Nat) (v : Option Nat) (g b : Nat) : x_R (x_uR σ f a v) g b = if g = f ∧ b = a then v else x_R σ g b := rfl
theorem A_uR (σ : PH) (f a : Nat) (v : Option Nat) : x_A (x_uR σ f a v) = x_A σ := rfl
theorem Q_uR (σ : PH) (f a : Nat) (v : Option Nat) : x_Q (x_uR σ f a v) = x_Q σ := rfl
theorem L_uR (σ : PH) (f a : Nat) (v : Option Nat) : x_L (x_uR σ f a v) = x_L σ := rfl
theorem N_uR (σ : PH) (f a : Nat) (v : Option Nat) : x_N (x_uR σ f a v) = x_N σ := rfl
theorem U_uR (σ : PH) (f a : Nat) (v : Option Nat) : x_U (x_uR σ f a v) = x_U σ := rfl
theorem K_uA (σ : PH) (a i : Nat) (v : Int32) : x_K (x_uA σ a i v) = x_K σ := rfl
theorem I_uA (σ : PH) (a i : Nat) (v : Int32) : x_I (x_uA σ a i v) = x_I σ := rfl
theorem R_uA (σ : PH) (a i : Nat) (v : Int32) : x_R (x_uA σ a i v) = x_R σ := rfl
theorem A_uA (σ : PH) (a i : Nat) (v : Int32) (g b : Nat) : x_A (x_uA σ a i v) g b = if g = a ∧ b = i then v else x_A σ g b := rfl
theorem Q_uA (σ : PH) (a i : Nat) (v : Int32) : x_Q (x_uA σ a i v) = x_Q σ := rfl
theorem L_uA (σ : PH) (a i : Nat) (v : Int32) : x_L (x_uA σ a i v) = x_L σ := rfl
theorem N_uA (σ : PH) (a i : Nat) (v : Int32) : x_N (x_uA σ a i v) = x_N σ := rfl
theorem U_uA (σ : PH) (a i : Nat) (v : Int32) : x_U (x_uA σ a i v) = x_U σ := rfl
theorem K_uQ (σ : PH) (a i : Nat) (v : Option Nat) : x_K (x_uQ σ a i v) = x_K σ := rfl
theorem I_uQ (σ : PH) (a i : Nat) (v : Option Nat) : x_I (x_uQ σ a i v) = x_I σ := rfl
theorem R_uQ (σ : PH) (a i : Nat) (v : Option Nat) : x_R (x_uQ σ a i v) = x_R σ := rfl
theorem A_uQ (σ : PH) (a i : Nat) (v : Option Nat) : x_A (x_uQ σ a i v) = x_A σ := rfl
theorem Q_uQ (σ : PH) (a i : Nat) (v : Option Nat) (g b : Nat) : x_Q (x_uQ σ a i v) g b = if g = a ∧ b = i then v else x_Q σ g b := rfl
theorem L_uQ (σ : PH) (a i : Nat) (v : Option Nat) : x_L (x_uQ σ a i v) = x_L σ := rfl
theorem N_uQ (σ : PH) (a i : Nat) (v : Option Nat) : x_N (x_uQ σ a i v) = x_N σ := rfl
theorem U_uQ (σ : PH) (a i : Nat) (v : Option Nat) : x_U (x_uQ σ a i v) = x_U σ := rfl
theorem K_nO (σ : PH) (ci b : Nat) : x_K (x_nO σ ci) b = if b = x_N σ then ci + 1 else x_K σ b := rfl
theorem I_nO (σ : PH) (ci f b : Nat) : x_I (x_nO σ ci) f b = if b = x_N σ then 0 else x_I σ f b := rfl
theorem R_nO (σ : PH) (ci f b : Nat) : x_R (x_nO σ ci) f b = if b = x_N σ then none else x_R σ f b := rfl
theorem A_nO (σ : PH) (ci : Nat) : x_A (x_nO σ ci) = x_A σ := rfl
theorem Q_nO (σ : PH) (ci : Nat) : x_Q (x_nO σ ci) = x_Q σ := rfl
theorem L_nO (σ : PH) (ci : Nat) : x_L (x_nO σ ci) = x_L σ := rfl
theorem N_nO (σ : PH) (ci : Nat) : x_N (x_nO σ ci) = x_N σ + 1 := rfl
theorem U_nO (σ : PH) (ci : Nat) : x_U (x_nO σ ci) = x_U σ + x_nf ci := rfl
theorem K_nA (σ : PH) (kd n b : Nat) : x_K (x_nA σ kd n) b = if b = x_N σ then kd + 11 else x_K σ b := rfl
theorem I_nA (σ : PH) (kd n : Nat) : x_I (x_nA σ kd n) = x_I σ := rfl
theorem R_nA (σ : PH) (kd n : Nat) : x_R (x_nA σ kd n) = x_R σ := rfl
theorem A_nA (σ : PH) (kd n b i : Nat) : x_A (x_nA σ kd n) b i = if b = x_N σ then 0 else x_A σ b i := rfl
theorem Q_nA (σ : PH) (kd n b i : Nat) : x_Q (x_nA σ kd n) b i = if b = x_N σ then none else x_Q σ b i := rfl
theorem L_nA (σ : PH) (kd n b : Nat) : x_L (x_nA σ kd n) b = if b = x_N σ then n else x_L σ b := rfl
theorem N_nA (σ : PH) (kd n : Nat) : x_N (x_nA σ kd n) = x_N σ + 1 := rfl
theorem U_nA (σ : PH) (kd n : Nat) : x_U (x_nA σ kd n) = x_U σ + n := rfl
