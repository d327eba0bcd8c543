/-! one step of a run -/
section QS
variable {α : Type} {σ σ' : PH} {a ci k n j : Nat} {z : Option (α × PH)}
theorem q_rI {f : Int32 → PM α} {v : Int32} (h : x_K σ a = ci + 1) (e : x_I σ (100 * ci + k) a = v) (g : x_rn (f v) σ = z) : x_rn (x_bd (x_rI (some a) ci k) f) σ = z := by
  rw [rn_bd, rn_rI k h, Option.bind_some, e]; exact g
theorem q_rR {f : Option Nat → PM α} {v : Option Nat} (h : x_K σ a = ci + 1) (e : x_R σ (100 * ci + k) a = v) (g : x_rn (f v) σ = z) : x_rn (x_bd (x_rR (some a) ci k) f) σ = z := by
  rw [rn_bd, rn_rR k h, Option.bind_some, e]; exact g
theorem q_wI {f : Unit → PM α} {v : Int32} (h : x_K σ a = ci + 1) (g : x_rn (f ()) (x_uI σ (100 * ci + k) a v) = z) : x_rn (x_bd (x_wI (some a) ci k v) f) σ = z := by
  rw [rn_bd, rn_wI k v h, Option.bind_some]; exact g
theorem q_wZ {f : Unit → PM α} (h : x_K σ a = ci + 1) (g : x_rn (f ()) (x_uI σ (100 * ci + k) a 1) = z) : x_rn (x_bd (x_wZ (some a) ci k 1) f) σ = z := by
  rw [rn_bd, rn_wZ1 k h, Option.bind_some]; exact g
theorem q_wR {f : Unit → PM α} {v : Option Nat} (h : x_K σ a = ci + 1) (g : x_rn (f ()) (x_uR σ (100 * ci + k) a v) = z) : x_rn (x_bd (x_wR (some a) ci k v) f) σ = z := by
  rw [rn_bd, rn_wR k v h, Option.bind_some]; exact g
theorem q_aI {f : Int32 → PM α} {kd : Nat} {i v : Int32} (hi : i = nI j) (h : x_K σ a = kd + 11) (hl : x_L σ a = n) (hj : j < n) (hn : n ≤ 65536) (e : x_A σ a j = v) (g : x_rn (f v) σ = z) : x_rn (x_bd (x_aI kd (some a) i) f) σ = z := by
  subst hi
  rw [rn_bd, rn_aI h (by omega) (by omega), Option.bind_some, e]; exact g
theorem q_aQ {f : Option Nat → PM α} {kd : Nat} {i : Int32} {v : Option Nat} (hi : i = nI j) (h : x_K σ a = kd + 11) (hl : x_L σ a = n) (hj : j < n) (hn : n ≤ 65536) (e : x_Q σ a j = v) (g : x_rn (f v) σ = z) : x_rn (x_bd (x_aQ kd (some a) i) f) σ = z := by
  subst hi
  rw [rn_bd, rn_aQ h (by omega) (by omega), Option.bind_some, e]; exact g
theorem q_aL {f : Int32 → PM α} {kd : Nat} (h : x_K σ a = kd + 11) (hl : x_L σ a = n) (g : x_rn (f (nI n)) σ = z) : x_rn (x_bd (x_aL kd (some a)) f) σ = z := by
  rw [rn_bd, rn_aL h, Option.bind_some, hl]; exact g
theorem q_sI {f : Unit → PM α} {i v : Int32} (hi : i = nI j) (h : x_K σ a = 11) (hl : x_L σ a = n) (hj : j < n) (hn : n ≤ 65536) (g : x_rn (f ()) (x_uA σ a j v) = z) : x_rn (x_bd (x_sI (some a) i v) f) σ = z := by
  subst hi
  rw [rn_bd, rn_sI v h (by omega) (by omega), Option.bind_some]; exact g
theorem q_sQ {f : Unit → PM α} {kd : Nat} {i : Int32} {v : Option Nat} (hi : i = nI j) (h : x_K σ a = kd + 11) (hl : x_L σ a = n) (hj : j < n) (hn : n ≤ 65536) (hv : x_fit σ v ci = true) (g : x_rn (f ()) (x_uQ σ a j v) = z) : x_rn (x_bd (x_sQ kd ci (some a) i v) f) σ = z := by
  subst hi
  rw [rn_bd, rn_sQ v h (by omega) (by omega) hv, Option.bind_some]; exact g
theorem q_mO {f : Option Nat → PM α} (g : x_rn (f (some (x_N σ))) (x_nO σ ci) = z) : x_rn (x_bd (x_mO ci) f) σ = z := by
  rw [rn_bd, rn_mO, Option.bind_some]; exact g
theorem q_mA {f : Option Nat → PM α} {kd : Nat} {i : Int32} (hi : i = nI n) (hn : n ≤ 65536) (g : x_rn (f (some (x_N σ))) (x_nA σ kd n) = z) : x_rn (x_bd (x_mA kd i) f) σ = z := by
  subst hi
  rw [rn_bd, rn_mA _ _ _ hn, Option.bind_some]; exact g
theorem q_cl {β : Type} {f : PM β} {g : β → PM α} {v : β} (h : x_K σ a = ci + 1) (e : x_rn f σ = some (v, σ')) (q : x_rn (g v) σ' = z) : x_rn (x_bd (x_cV (some a) ci f) g) σ = z := by
  rw [rn_bd, rn_cV f h, e, Option.bind_some]; exact q
theorem q_st {β : Type} {f : PM β} {g : β → PM α} {v : β} (e : x_rn f σ = some (v, σ')) (q : x_rn (g v) σ' = z) : x_rn (x_bd f g) σ = z := by
  rw [rn_bd, e, Option.bind_some]; exact q
theorem q_p {β : Type} {g : β → PM α} {v : β} (q : x_rn (g v) σ = z) : x_rn (x_bd (x_pr v) g) σ = z := q
theorem q_t {c : Prop} [Decidable c] {A B : PM α} (hc : c) (g : x_rn A σ = z) : x_rn (if c then A else B) σ = z := by
  rw [if_pos hc]; exact g
theorem q_f {c : Prop} [Decidable c] {A B : PM α} (hc : ¬ c) (g : x_rn B σ = z) : x_rn (if c then A else B) σ = z := by
  rw [if_neg hc]; exact g
theorem q_e {v : α} : x_rn (x_pr v) σ = some (v, σ) := rfl
theorem n_some {a : Nat} : ¬ (some a = (none : Option Nat)) := by intro h; cases h
end QS
/-! the same for the reference's rows -/
section QT
variable {α : Type} {T T' : Tb} {k j : Nat} {z : Option (α × Tb)}
theorem r_g {f : Int32 → TM α} {v : Int32} (e : T k 0 = v) (g : f v T = z) : t_bd (t_g k) f T = z := by subst e; exact g
theorem r_p {f : Unit → TM α} {v : Int32} (g : f () (x_up T k 0 v) = z) : t_bd (t_p k v) f T = z := g
theorem r_a {f : Int32 → TM α} {i v : Int32} (hi : i = nI j) (hj : j < x_ln k) (e : T k j = v) (g : f v T = z) : t_bd (t_a k i) f T = z := by
  subst hi; unfold t_bd; rw [ta T hj, e]; exact g
theorem r_s {f : Unit → TM α} {i v : Int32} (hi : i = nI j) (hj : j < x_ln k) (g : f () (x_up T k j v) = z) : t_bd (t_s k i v) f T = z := by
  subst hi; unfold t_bd; rw [ts v T hj]; exact g
theorem r_z {f : Unit → TM α} {i : Int32} (hi : i = nI j) (hj : j < x_ln k) (g : f () (x_up T k j 1) = z) : t_bd (t_z k i 1) f T = z := by
  subst hi; unfold t_bd; rw [tz1 T hj]; exact g
theorem r_st {β : Type} {f : TM β} {g : β → TM α} {v : β} (e : f T = some (v, T')) (q : g v T' = z) : t_bd f g T = z := by
  unfold t_bd; rw [e]; exact q
theorem r_q {β : Type} {g : β → TM α} {v : β} (q : g v T = z) : t_bd (t_pr v) g T = z := q
theorem r_t {c : Prop} [Decidable c] {A B : TM α} (hc : c) (g : A T = z) : (if c then A else B) T = z := by
  rw [if_pos hc]; exact g
theorem r_f {c : Prop} [Decidable c] {A B : TM α} (hc : ¬ c) (g : B T = z) : (if c then A else B) T = z := by
  rw [if_neg hc]; exact g
end QT
