section PI
variable {b : Nat}
def kT (i : Nat) : Nat := match i with
  | 0 => 9
  | 1 => 4
  | 2 => 13
  | 3 => 16
  | 4 => 11
  | 5 => 16
  | 6 => 16
  | 7 => 1
  | 8 => 11
  | 9 => 11
  | 10 => 15
  | 11 => 14
  | 12 => 10
  | i => x_kd (x_fo (i - 12)) + 11
def lT (i : Nat) : Nat := match i with
  | 0 => 0
  | 1 => 0
  | 2 => 10
  | 3 => 15
  | 4 => 100
  | 5 => 100
  | 6 => 100
  | 7 => 0
  | 8 => 8
  | 9 => 8
  | 10 => 200
  | 11 => 1000
  | 12 => 0
  | i => x_ln (x_fo (i - 12))
def sz (i : Nat) : Nat := match i with
  | 0 => x_nf 8
  | 1 => x_nf 3
  | 7 => x_nf 0
  | 12 => x_nf 9
  | i => lT i
/-- the store while the two objects are made: j cells stand -/
def CL (b j : Nat) (r : Nat → Nat → Option Nat) (q : Nat → Int32) (p : Int32) (σ : PH) : Prop := x_N σ = b + j ∧ (∀ i, i < j → x_K σ (b + i) = kT i ∧ x_L σ (b + i) = lT i) ∧ (∀ a, a < b ∨ b + j ≤ a → x_K σ a = 0) ∧ (∀ a, b + j ≤ a → x_L σ a = 0) ∧ (∀ f a, x_I σ f a = if f = 807 ∧ a = b then p else 0) ∧ (∀ a i, x_A σ a i = if a = b + 4 then q i else 0) ∧ (∀ a i, x_Q σ a i = none) ∧ x_R σ = r ∧ (∀ f a, b + j ≤ a → r f a = none) ∧ x_U σ = sT sz j
variable {j : Nat} {r : Nat → Nat → Option Nat} {q : Nat → Int32} {p : Int32} {σ : PH}
theorem CL.K (h : CL b j r q p σ) {i : Nat} (hi : i < j) : x_K σ (b + i) = kT i := (h.2.1 i hi).1
theorem CL.L (h : CL b j r q p σ) {i : Nat} (hi : i < j) : x_L σ (b + i) = lT i := (h.2.1 i hi).2
theorem CL.R (h : CL b j r q p σ) (f a : Nat) : x_R σ f a = r f a := by rw [h.2.2.2.2.2.2.2.1]
theorem CL.start : CL b 0 (fun _ _ => none) (fun _ => 0) 0 (x_s0 b) := ⟨rfl, fun i hi => absurd hi (Nat.not_lt_zero _), fun _ _ => rfl, fun _ _ => rfl, fun f a => by split <;> rfl, fun a i => by split <;> rfl, fun _ _ => rfl, rfl, fun _ _ _ => rfl, rfl⟩
theorem CL.nO (h : CL b j r q p σ) {ci : Nat} (hk : kT j = ci + 1) (hl : lT j = 0) (hs : sz j = x_nf ci) (hp : j = 0 → p = 0) : CL b (j + 1) r q p (x_nO σ ci) := by
  obtain ⟨h1, h2, h3, h4, h5, h6, h7, h8, h9, h10⟩ := h
  refine ⟨?_, fun i hi => ?_, fun a ha => ?_, fun a ha => ?_, fun f a => ?_, h6, h7, ?_, fun f a ha => h9 f a (by omega), ?_⟩
  · rw [N_nO, h1]; omega
  · rw [K_nO, L_nO, h1]
    by_cases e : i = j
    · subst e
      rw [if_pos rfl, hk, hl, h4 _ (Nat.le_refl _)]; exact ⟨rfl, rfl⟩
    · rw [if_neg (by omega)]; exact h2 i (by omega)
  · rw [K_nO, h1, if_neg (by omega)]; exact h3 a (by omega)
  · rw [L_nO]; exact h4 a (by omega)
  · rw [I_nO, h5, h1]
    by_cases e : a = b + j
    · rw [if_pos e]
      by_cases e2 : f = 807 ∧ a = b
      · rw [if_pos e2, hp (by omega)]
      · rw [if_neg e2]
    · rw [if_neg e]
  · funext f a
    rw [R_nO, h8, h1]
    by_cases e : a = b + j
    · rw [if_pos e, e, h9 f _ (Nat.le_refl _)]
    · rw [if_neg e]
  · rw [U_nO, h10, ← hs]; rfl
theorem CL.nA (h : CL b j r q p σ) {kd n : Nat} (hk : kT j = kd + 11) (hl : lT j = n) (hs : sz j = n) (hq : j = 4 → ∀ x, q x = 0) : CL b (j + 1) r q p (x_nA σ kd n) := by
  obtain ⟨h1, h2, h3, h4, h5, h6, h7, h8, h9, h10⟩ := h
  refine ⟨?_, fun i hi => ?_, fun a ha => ?_, fun a ha => ?_, h5, fun a i => ?_, fun a i => ?_, h8, fun f a ha => h9 f a (by omega), ?_⟩
  · rw [N_nA, h1]; omega
  · rw [K_nA, L_nA, h1]
    by_cases e : i = j
    · subst e
      rw [if_pos rfl, if_pos rfl, hk, hl]; exact ⟨rfl, rfl⟩
    · rw [if_neg (by omega), if_neg (by omega)]; exact h2 i (by omega)
  · rw [K_nA, h1, if_neg (by omega)]; exact h3 a (by omega)
  · rw [L_nA, h1, if_neg (by omega)]; exact h4 a (by omega)
  · rw [A_nA, h1, h6]
    by_cases e : a = b + j
    · rw [if_pos e]
      by_cases e2 : a = b + 4
      · rw [if_pos e2, hq (by omega)]
      · rw [if_neg e2]
    · rw [if_neg e]
  · rw [Q_nA, h7]; split <;> rfl
  · rw [U_nA, h10, ← hs]; rfl
theorem CL.uR (h : CL b j r q p σ) (f a : Nat) (v : Option Nat) (ha : a < b + j) : CL b j (x_up r f a v) q p (x_uR σ f a v) := by
  obtain ⟨h1, h2, h3, h4, h5, h6, h7, h8, h9, h10⟩ := h
  refine ⟨h1, h2, h3, h4, h5, h6, h7, ?_, fun g c hc => ?_, h10⟩
  · show x_up (x_R σ) f a v = _
    rw [h8]
  · rw [x_up_n _ _ _ _ (by omega)]; exact h9 g c hc
theorem CL.uA (h : CL b j r q p σ) (i : Nat) (v : Int32) : CL b j r (fun x => if x = i then v else q x) p (x_uA σ (b + 4) i v) := by
  obtain ⟨h1, h2, h3, h4, h5, h6, h7, h8, h9, h10⟩ := h
  refine ⟨h1, h2, h3, h4, h5, fun a x => ?_, h7, h8, h9, h10⟩
  rw [A_uA, h6]
  by_cases e : a = b + 4
  · rw [if_pos e, if_pos e]
    by_cases e2 : x = i
    · rw [if_pos ⟨e, e2⟩]; exact (if_pos e2).symm
    · rw [if_neg (fun z => e2 z.2)]; exact (if_neg e2).symm
  · rw [if_neg (fun z => e z.1), if_neg e, if_neg e]
theorem CL.u8 (h : CL b j r q p σ) (v : Int32) : CL b j r q v (x_uI σ 807 b v) := by
  obtain ⟨h1, h2, h3, h4, h5, h6, h7, h8, h9, h10⟩ := h
  refine ⟨h1, h2, h3, h4, fun f a => ?_, h6, h7, h8, h9, h10⟩
  rw [I_uI, h5]
  by_cases e : f = 807 ∧ a = b
  · rw [if_pos e, if_pos e]
  · rw [if_neg e, if_neg e, if_neg e]
theorem q_mO' {α : Type} {ci n : Nat} {z : Option (α × PH)} {f : Option Nat → PM α} (hN : x_N σ = n) (g : x_rn (f (some n)) (x_nO σ ci) = z) : x_rn (x_bd (x_mO ci) f) σ = z := by
  subst hN; exact q_mO g
theorem q_mA' {α : Type} {kd m n : Nat} {i : Int32} {z : Option (α × PH)} {f : Option Nat → PM α} (hN : x_N σ = n) (hi : i = nI m) (hm : m ≤ 65536) (g : x_rn (f (some n)) (x_nA σ kd m) = z) : x_rn (x_bd (x_mA kd i) f) σ = z := by
  subst hN; exact q_mA hi hm g
def qI (i x : Nat) : Int32 := if x < i then (if x / 10 = x % 10 then 0 else (1000000 : Int32)) else 0
theorem qI_s {i : Nat} : (fun x => if x = i then (if i / 10 = i % 10 then 0 else (1000000 : Int32)) else qI i x) = qI (i + 1) := by
  funext x
  unfold qI
  by_cases c : x = i
  · rw [if_pos c, c, if_pos (show i < i + 1 by omega)]
  · rw [if_neg c]
    by_cases c2 : x < i
    · rw [if_pos c2, if_pos (show x < i + 1 by omega)]
    · rw [if_neg c2, if_neg (by omega)]
theorem e_i50 (F : Nat) (hr : r 304 (b + 1) = some (b + 4)) (hj : 4 < j) : ∀ (d n i : Nat) (σ : PH), i + d = 100 → d < n → CL b j r (qI i) p σ → ∃ σ', x_rn (mX3_init_50 F n (some (b + 1)) (nI i)) σ = some ((), σ') ∧ CL b j r (qI 100) p σ' := by
  intro d
  induction d with
  | zero =>
    intro n i σ hi hn h
    obtain ⟨n, rfl⟩ : ∃ m, n = m + 1 := ⟨n - 1, by omega⟩
    have e : i = 100 := by omega
    subst e
    refine ⟨σ, ?_, h⟩
    rw [mX3_init_50]
    refine q_rR (h.K (i := 1) (by omega)) ((h.R _ _).trans hr) ?_
    refine q_aL (kd := 0) (h.K (i := 4) hj) (h.L (i := 4) hj) ?_
    refine q_t (nI_le (Nat.le_refl _) (by decide)) ?_
    exact q_e
  | succ d ih =>
    intro n i σ hi hn h
    obtain ⟨n, rfl⟩ : ∃ m, n = m + 1 := ⟨n - 1, by omega⟩
    have hi2 : i < 100 := by omega
    have k1 : x_K σ (b + 1) = 4 := h.K (i := 1) (by omega)
    have k4 : x_K σ (b + 4) = 11 := h.K (i := 4) hj
    have l4 : x_L σ (b + 4) = 100 := h.L (i := 4) hj
    have rr : x_R σ 304 (b + 1) = some (b + 4) := (h.R _ _).trans hr
    have ed : nI i / (10 : Int32) = nI (i / 10) := pk_div (d := 10) (by omega) (by decide) (by decide)
    have er : x_rem (nI i) (10 : Int32) = nI (i % 10) := pk_rem (d := 10) (by omega) (by decide) (by decide)
    have u := h.uA i (if i / 10 = i % 10 then 0 else (1000000 : Int32))
    rw [qI_s] at u
    obtain ⟨σ', g1, g2⟩ := ih n (i + 1) _ (by omega) (by omega) u
    refine ⟨σ', ?_, g2⟩
    rw [mX3_init_50]
    refine q_rR k1 rr ?_
    refine q_aL (kd := 0) k4 l4 ?_
    refine q_f (nI_ge hi2 (by decide)) ?_
    by_cases c : i / 10 = i % 10
    · rw [if_pos c] at g1
      refine q_t (by rw [ed, er, c]) ?_
      refine q_rR k1 rr ?_
      refine q_f (by decide) ?_
      refine q_sI rfl k4 l4 hi2 (by decide) ?_
      refine q_p ?_
      rw [nI_1]
      exact g1
    · rw [if_neg c] at g1
      refine q_f (by rw [ed, er]; exact fun z => c ((nI_eq (by omega) (by omega)).mp z)) ?_
      refine q_rR k1 rr ?_
      refine q_t rfl ?_
      refine q_sI rfl k4 l4 hi2 (by decide) ?_
      refine q_p ?_
      rw [nI_1]
      exact g1
theorem e_init3 {F : Nat} (hF : 100 < F) (h : CL b 2 r (fun _ => 0) p σ) : ∃ σ', x_rn (mX3_init F (some (b + 1))) σ = some ((), σ') ∧ CL b 7 (x_up (x_up (x_up (x_up (x_up r 302 (b + 1) (some (b + 2))) 303 (b + 1) (some (b + 3))) 304 (b + 1) (some (b + 4))) 305 (b + 1) (some (b + 5))) 306 (b + 1) (some (b + 6))) (qI 100) p σ' := by
  unfold mX3_init
  have a1 := h.nA (kd := 2) (n := 10) rfl rfl rfl (fun e => by omega)
  have a2 := a1.uR 302 (b + 1) (some (b + 2)) (by omega)
  have a3 := a2.nA (kd := 5) (n := 15) rfl rfl rfl (fun e => by omega)
  have a4 := a3.uR 303 (b + 1) (some (b + 3)) (by omega)
  have a5 := a4.nA (kd := 0) (n := 100) rfl rfl rfl (fun _ _ => rfl)
  have a6 := a5.uR 304 (b + 1) (some (b + 4)) (by omega)
  have a7 := a6.nA (kd := 5) (n := 100) rfl rfl rfl (fun e => by omega)
  have a8 := a7.uR 305 (b + 1) (some (b + 5)) (by omega)
  have a9 := a8.nA (kd := 5) (n := 100) rfl rfl rfl (fun e => by omega)
  have a10 := a9.uR 306 (b + 1) (some (b + 6)) (by omega)
  have q0 : (fun _ => (0 : Int32)) = qI 0 := by funext x; unfold qI; rw [if_neg (by omega)]
  rw [q0] at a10
  obtain ⟨σ', g1, g2⟩ := e_i50 F (r := x_up (x_up (x_up (x_up (x_up r 302 (b + 1) (some (b + 2))) 303 (b + 1) (some (b + 3))) 304 (b + 1) (some (b + 4))) 305 (b + 1) (some (b + 5))) 306 (b + 1) (some (b + 6))) (by
      rw [x_up_n _ _ _ _ (by omega), x_up_n _ _ _ _ (by omega)]; exact x_up_s _ _ _ _) (by omega) 100 F 0 _ (by omega) hF a10
  refine ⟨σ', ?_, g2⟩
  refine q_mA' h.1 (m := 10) rfl (by decide) (q_wR (ci := 3) (a1.K (i := 1) (by omega)) ?_)
  refine q_mA' a2.1 (m := 15) rfl (by decide) (q_wR (ci := 3) (a3.K (i := 1) (by omega)) ?_)
  refine q_mA' a4.1 (m := 100) rfl (by decide) (q_wR (ci := 3) (a5.K (i := 1) (by omega)) ?_)
  refine q_mA' a6.1 (m := 100) rfl (by decide) (q_wR (ci := 3) (a7.K (i := 1) (by omega)) ?_)
  refine q_mA' a8.1 (m := 100) rfl (by decide) (q_wR (ci := 3) (a9.K (i := 1) (by omega)) ?_)
  exact g1
theorem e_init8 {F : Nat} (hF : 100 < F) (h : CL b 1 r (fun _ => 0) 0 σ) : ∃ σ' r', x_rn (mX8_init F (some b)) σ = some ((), σ') ∧ CL b 12 r' (qI 100) (1000000 : Int32) σ' ∧ r' 800 b = some (b + 1) ∧ r' 801 b = some (b + 7) ∧ r' 802 b = some (b + 10) ∧ r' 803 b = some (b + 11) ∧ r' 302 (b + 1) = some (b + 2) ∧ r' 303 (b + 1) = some (b + 3) ∧ r' 304 (b + 1) = some (b + 4) ∧ r' 305 (b + 1) = some (b + 5) ∧ r' 306 (b + 1) = some (b + 6) ∧ r' 0 (b + 7) = some (b + 8) ∧ r' 1 (b + 7) = some (b + 9) := by
  have a1 := h.nO (ci := 3) rfl rfl rfl (fun e => by omega)
  obtain ⟨σ3, e3, a2⟩ := e_init3 hF a1
  have a3 := a2.uR 800 b (some (b + 1)) (by omega)
  have a4 := a3.nO (ci := 0) rfl rfl rfl (fun e => by omega)
  have a5 := a4.nA (kd := 0) (n := 8) rfl rfl rfl (fun e => by omega)
  have a6 := a5.uR 0 (b + 7) (some (b + 8)) (by omega)
  have a7 := a6.nA (kd := 0) (n := 8) rfl rfl rfl (fun e => by omega)
  have a8 := a7.uR 1 (b + 7) (some (b + 9)) (by omega)
  have a9 := a8.uR 801 b (some (b + 7)) (by omega)
  have a10 := a9.nA (kd := 4) (n := 200) rfl rfl rfl (fun e => by omega)
  have a11 := a10.uR 802 b (some (b + 10)) (by omega)
  have a12 := a11.nA (kd := 3) (n := 1000) rfl rfl rfl (fun e => by omega)
  have a13 := a12.uR 803 b (some (b + 11)) (by omega)
  have kB : ∀ {j r q p σ}, CL b j r q p σ → 0 < j → x_K σ b = 9 := fun h hj => h.K (i := 0) hj
  have e0 : x_rn (mX0_init F (some (b + 7))) (x_nO (x_uR σ3 800 b (some (b + 1))) 0) = some ((), x_uR (x_nA (x_uR (x_nA (x_nO (x_uR σ3 800 b (some (b + 1))) 0) 0 8) 0 (b + 7) (some (b + 8))) 0 8) 1 (b + 7) (some (b + 9))) := by
    unfold mX0_init
    refine q_mA' a4.1 (m := 8) rfl (by decide) (q_wR (ci := 0) (a5.K (i := 7) (by omega)) ?_)
    refine q_mA' a6.1 (m := 8) rfl (by decide) (q_wR (ci := 0) (a7.K (i := 7) (by omega)) ?_)
    exact q_e
  have a14 := a13.u8 (1000000 : Int32)
  refine ⟨_, _, ?_, a14, ?_, ?_, ?_, ?_, ?_, ?_, ?_, ?_, ?_, ?_, ?_⟩
  · unfold mX8_init
    refine q_mO' h.1 ?_
    refine q_st e3 ?_
    refine q_wR (ci := 8) (kB a2 (by omega)) ?_
    refine q_mO' a3.1 ?_
    refine q_st e0 ?_
    refine q_wR (ci := 8) (kB a8 (by omega)) ?_
    refine q_mA' a9.1 (m := 200) rfl (by decide) (q_wR (ci := 8) (kB a10 (by omega)) ?_)
    refine q_mA' a11.1 (m := 1000) rfl (by decide) (q_wR (ci := 8) (kB a12 (by omega)) ?_)
    refine q_wI (ci := 8) (kB a13 (by omega)) ?_
    exact q_e
  all_goals (repeat (first | exact x_up_s _ _ _ _ | rw [x_up_n _ _ _ _ (by omega)]))
end PI
