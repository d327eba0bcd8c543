section PSh
variable {b : Nat} {ad : Ad} {T T2 : Tb} {Q : Qs} {σ : PH} {s k : Nat}
/-- the row of LEAST while it is shortened: up to i the new one -/
def mD (T : Tb) (a c t i x : Nat) : Nat := if x < i then DA (Dm T) a c t (x / 10) (x % 10) else ix (T 13 x)
def rD (T : Tb) (a c t i x : Nat) : Int32 := if x < 100 then nI (mD T a c t i x) else T 13 x
theorem rD_0 (hJ : JT s T) {a c t : Nat} : rD T a c t 0 = T 13 := by
  funext x
  unfold rD mD
  by_cases h : x < 100
  · rw [if_pos h, if_neg (by omega)]; exact (hJ.ls x h).1.symm
  · rw [if_neg h]
theorem t13_id {U : Tb} : t13 U (U 13) = U := by
  refine up_ext (fun x y => ?_)
  unfold t13
  by_cases h : x = 13
  · rw [if_pos h, h]
  · rw [if_neg h]
theorem Dm_ix {x : Nat} (h : x < 100) : Dm T (x / 10) (x % 10) = ix (T 13 x) := by
  unfold Dm
  rw [show 10 * (x / 10) + x % 10 = x by omega]
theorem mD_bd (hJ : JT s T) {a c t i x : Nat} (hx : x < 100) : DA (Dm T) a c t (x / 10) (x % 10) ≤ mD T a c t i x ∧ mD T a c t i x ≤ Dm T (x / 10) (x % 10) ∧ mD T a c t i x ≤ 1000000 := by
  have h1 := @DA_le (Dm T) a c t (x / 10) (x % 10)
  have h2 := (hJ.ls x hx).2
  have h3 := Dm_ix (T := T) hx
  unfold mD
  split <;> omega
theorem rD_s {a c t i : Nat} (hi : i < 100) : (fun x => if x = i then nI (DA (Dm T) a c t (i / 10) (i % 10)) else rD T a c t i x) = rD T a c t (i + 1) := by
  funext x
  unfold rD mD
  by_cases h : x = i
  · rw [if_pos h, h, if_pos hi, if_pos (by omega)]
  · rw [if_neg h]
    by_cases h2 : x < 100
    · rw [if_pos h2, if_pos h2]
      by_cases h3 : x < i
      · rw [if_pos h3, if_pos (by omega)]
      · rw [if_neg h3, if_neg (by omega)]
    · rw [if_neg h2, if_neg h2]
theorem e_shortL (hJ : JT s T) {U : Tb} {a c t : Nat} (ha : a < 10) (hc : c < 10) (ht : t ≤ 60) (F : Nat) : ∀ (d n i : Nat) (σ : PH), i + d = 100 → d < n → RX b ad (t13 U (rD T a c t i)) Q σ → ∃ σ', x_rn (mX3_shortenBy_3 F n (some (b + 1)) (nI a) (nI c) (nI t) (nI i)) σ = some ((), σ') ∧ RX b ad (t13 U (rD T a c t 100)) Q σ' ∧ (x_Q σ' = x_Q σ ∧ x_N σ' = x_N σ ∧ x_U σ' = x_U σ ∧ x_I σ' = x_I σ ∧ ∀ T2, RM b T2 σ → RM b T2 σ') := by
  intro d
  induction d with
  | zero =>
    intro n i σ hi hn h
    obtain ⟨n, rfl⟩ : ∃ m, n = m + 1 := ⟨n - 1, by omega⟩
    have e : i = 100 := by omega
    subst e
    refine ⟨σ, ?_, h, rfl, rfl, rfl, rfl, fun _ g => g⟩
    rw [mX3_shortenBy_3]
    refine q_rR h.fK.2.1 h.fR.2.2.2.2.2.2.1 ?_
    refine q_aL h.fK.2.2.2.2.1 h.fL.2.2.1 ?_
    refine q_t (nI_le (Nat.le_refl _) (by decide)) ?_
    exact q_e
  | succ d ih =>
    intro n i σ hi hn h
    obtain ⟨n, rfl⟩ : ∃ m, n = m + 1 := ⟨n - 1, by omega⟩
    have hi2 : i < 100 := by omega
    have g := h.u13 i (nI (DA (Dm T) a c t (i / 10) (i % 10)))
    rw [rD_s hi2] at g
    obtain ⟨σ', e1, g1, g2⟩ := ih n (i + 1) _ (by omega) (by omega) g
    have k2 := h.fK.2.1
    have k5 := h.fK.2.2.2.2.1
    have l5 := h.fL.2.2.1
    have r7 := h.fR.2.2.2.2.2.2.1
    have l1 := e_leastOf h F (i := i / 10) (k := a) (by omega) ha
    have l2 := e_leastOf h F (i := c) (k := i % 10) hc (by omega)
    have l3 := e_leastOf h F (i := i / 10) (k := c) (by omega) hc
    have l4 := e_leastOf h F (i := a) (k := i % 10) ha (by omega)
    have v : ∀ x, x < 100 → t13 U (rD T a c t i) 13 x = nI (mD T a c t i x) := fun x hx => if_pos hx
    rw [v _ (by omega)] at l1 l2 l3 l4
    have b1 := mD_bd hJ (a := a) (c := c) (t := t) (i := i) (x := 10 * (i / 10) + a) (by omega)
    have b2 := mD_bd hJ (a := a) (c := c) (t := t) (i := i) (x := 10 * c + i % 10) (by omega)
    have b3 := mD_bd hJ (a := a) (c := c) (t := t) (i := i) (x := 10 * (i / 10) + c) (by omega)
    have b4 := mD_bd hJ (a := a) (c := c) (t := t) (i := i) (x := 10 * a + i % 10) (by omega)
    have b5 := mD_bd hJ (a := a) (c := c) (t := t) (i := i) (x := i) hi2
    rw [show (10 * (i / 10) + a) / 10 = i / 10 by omega, show (10 * (i / 10) + a) % 10 = a by omega] at b1
    rw [show (10 * c + i % 10) / 10 = c by omega, show (10 * c + i % 10) % 10 = i % 10 by omega] at b2
    rw [show (10 * (i / 10) + c) / 10 = i / 10 by omega, show (10 * (i / 10) + c) % 10 = c by omega] at b3
    rw [show (10 * a + i % 10) / 10 = a by omega, show (10 * a + i % 10) % 10 = i % 10 by omega] at b4
    have mid := hJ.lw.mid (a := a) (c := c) (t := t) (i := i / 10) (j := i % 10) ha hc (by omega) (by omega) ⟨b1.1, b1.2.1⟩ ⟨b2.1, b2.2.1⟩ ⟨b3.1, b3.2.1⟩ ⟨b4.1, b4.2.1⟩
    have mi : mD T a c t i i = Dm T (i / 10) (i % 10) := by
      unfold mD; rw [if_neg (by omega), Dm_ix hi2]
    have mn : ∀ x y : Nat, x < 2147483648 → y < 2147483648 → x_min (nI x) (nI y) = nI (min x y) := by
      intro x y hx hy
      unfold x_min
      by_cases q : y < x
      · rw [if_pos (nI_lt q (by omega)), Nat.min_eq_right (by omega)]
      · rw [if_neg (nI_nlt (by omega) (by omega)), Nat.min_eq_left (by omega)]
    refine ⟨σ', ?_, g1, ?_⟩
    · rw [mX3_shortenBy_3]
      refine q_rR k2 r7 ?_
      refine q_aL k5 l5 ?_
      refine q_f (nI_ge hi2 (by decide)) ?_
      refine q_p ?_
      refine q_p ?_
      rw [show nI i / (10 : Int32) = nI (i / 10) from pk_div (d := 10) (by omega) (by decide) (by decide), show x_rem (nI i) (10 : Int32) = nI (i % 10) from pk_rem (d := 10) (by omega) (by decide) (by decide)]
      refine q_cl k2 l1 ?_
      refine q_cl k2 l2 ?_
      refine q_p ?_
      refine q_cl k2 l3 ?_
      refine q_cl k2 l4 ?_
      refine q_p ?_
      refine q_rR k2 r7 ?_
      refine q_rR k2 r7 ?_
      refine q_aI rfl k5 l5 hi2 (by decide) ((h.al i hi2).trans (v i hi2)) ?_
      refine q_sI rfl k5 l5 hi2 (by decide) ?_
      refine q_p ?_
      rw [nI_1, nI_add, nI_add, nI_add, nI_add, mn _ _ (by omega) (by omega), mn _ _ (by omega) (by omega), mi, mid]
      exact e1
    · obtain ⟨s1, s2, s3, s4, s5⟩ := g2
      exact ⟨s1, s2, s3, s4, fun T2 q => s5 T2 (q.uA _ (Or.inl (by omega)))⟩
/-! the straight wires -/
theorem stf_spec {i j : Nat} : ∀ n, (stf T i j n = none → ∀ w, w < n → ot T w i ≠ some j) ∧ (∀ v, stf T i j n = some v → v < n ∧ ot T v i = some j ∧ ∀ w, w < n → ot T w i = some j → ix (T 10 v) < ix (T 10 w) ∨ (ix (T 10 v) = ix (T 10 w) ∧ v ≤ w)) := by
  intro n
  induction n with
  | zero => exact ⟨fun _ w hw => absurd hw (by omega), fun v h => (by cases h)⟩
  | succ n ih =>
    simp only [stf]
    by_cases c : ot T n i = some j
    · rw [if_pos c]
      cases e : stf T i j n with
      | none =>
        have ih1 := ih.1 e
        refine ⟨fun h => (by cases h), fun v h => ?_⟩
        cases h
        refine ⟨by omega, c, fun w hw hc => ?_⟩
        by_cases q : w = n
        · rw [q]; exact Or.inr ⟨rfl, Nat.le_refl _⟩
        · exact absurd hc (ih1 w (by omega))
      | some v =>
        obtain ⟨h1, h2, h3⟩ := ih.2 v e
        by_cases c2 : ix (T 10 n) < ix (T 10 v)
        · simp only [c2, if_true]
          refine ⟨fun h => (by cases h), fun u h => ?_⟩
          cases h
          refine ⟨by omega, c, fun w hw hc => ?_⟩
          by_cases q : w = n
          · rw [q]; exact Or.inr ⟨rfl, Nat.le_refl _⟩
          · have := h3 w (by omega) hc; omega
        · simp only [c2, if_false]
          refine ⟨fun h => (by cases h), fun u h => ?_⟩
          cases h
          refine ⟨by omega, h2, fun w hw hc => ?_⟩
          by_cases q : w = n
          · rw [q]; omega
          · exact h3 w (by omega) hc
    · rw [if_neg c]
      refine ⟨fun e w hw hc => ?_, fun v e => ?_⟩
      · by_cases q : w = n
        · exact c (q ▸ hc)
        · exact ih.1 e w (by omega) hc
      · obtain ⟨h1, h2, h3⟩ := ih.2 v e
        refine ⟨by omega, h2, fun w hw hc => ?_⟩
        by_cases q : w = n
        · exact absurd (q ▸ hc) c
        · exact h3 w (by omega) hc
theorem stf_cgn {T' : Tb} {i j : Nat} : ∀ n, (∀ w, w < n → T' 8 w = T 8 w ∧ T' 9 w = T 9 w ∧ T' 10 w = T 10 w) → stf T' i j n = stf T i j n := by
  intro n
  induction n with
  | zero => intro _; rfl
  | succ n ih =>
    intro h
    have e1 := ih (fun w hw => h w (by omega))
    obtain ⟨a8, a9, a10⟩ := h n (by omega)
    have eo : ot T' n i = ot T n i := by unfold ot; rw [a8, a9]
    simp only [stf, e1, eo]
    cases e : stf T i j n with
    | none => rfl
    | some v =>
      have := ((stf_spec (T := T) (i := i) (j := j) n).2 v e).1
      simp only [a10, (h v (by omega)).2.2]
theorem nwf_spec {i j : Nat} : ∀ n, (nwf T i j n = none → ∀ w, w < n → ¬ cd T i j w = true) ∧ (∀ v, nwf T i j n = some v → v < n ∧ cd T i j v = true ∧ ∀ w, w < n → cd T i j w = true → (ot T v i).getD 0 < (ot T w i).getD 0 ∨ ((ot T v i).getD 0 = (ot T w i).getD 0 ∧ v ≤ w)) := by
  intro n
  induction n with
  | zero => exact ⟨fun _ w hw => absurd hw (by omega), fun v h => (by cases h)⟩
  | succ n ih =>
    simp only [nwf]
    by_cases c : cd T i j n = true
    · rw [if_pos c]
      cases e : nwf T i j n with
      | none =>
        have ih1 := ih.1 e
        refine ⟨fun h => (by cases h), fun v h => ?_⟩
        cases h
        refine ⟨by omega, c, fun w hw hc => ?_⟩
        by_cases q : w = n
        · rw [q]; exact Or.inr ⟨rfl, Nat.le_refl _⟩
        · exact absurd hc (ih1 w (by omega))
      | some v =>
        obtain ⟨h1, h2, h3⟩ := ih.2 v e
        by_cases c2 : (ot T n i).getD 0 < (ot T v i).getD 0
        · simp only [c2, if_true]
          refine ⟨fun h => (by cases h), fun u h => ?_⟩
          cases h
          refine ⟨by omega, c, fun w hw hc => ?_⟩
          by_cases q : w = n
          · rw [q]; exact Or.inr ⟨rfl, Nat.le_refl _⟩
          · have := h3 w (by omega) hc; omega
        · simp only [c2, if_false]
          refine ⟨fun h => (by cases h), fun u h => ?_⟩
          cases h
          refine ⟨by omega, h2, fun w hw hc => ?_⟩
          by_cases q : w = n
          · rw [q]; omega
          · exact h3 w (by omega) hc
    · rw [if_neg c]
      refine ⟨fun e w hw hc => ?_, fun v e => ?_⟩
      · by_cases q : w = n
        · exact c (q ▸ hc)
        · exact ih.1 e w (by omega) hc
      · obtain ⟨h1, h2, h3⟩ := ih.2 v e
        refine ⟨by omega, h2, fun w hw hc => ?_⟩
        by_cases q : w = n
        · exact absurd (q ▸ hc) c
        · exact h3 w (by omega) hc
/-- the class's search for the first wire of a way -/
def fw (T : Tb) (i j : Nat) : Nat → Option Nat
  | 0 => none
  | d + 1 => match stf T i (cC T - (d + 1)) (cW T) with
    | none => fw T i j d
    | some w => if ix (T 10 w) + Dm T (cC T - (d + 1)) j = Dm T i j then some w else fw T i j d
theorem fw_spec {i j : Nat} : ∀ d, d ≤ cC T → (fw T i j d = none → ∀ x, cC T - d ≤ x → x < cC T → ∀ w, stf T i x (cW T) = some w → ¬ ix (T 10 w) + Dm T x j = Dm T i j) ∧ (∀ v, fw T i j d = some v → ∃ x, cC T - d ≤ x ∧ x < cC T ∧ stf T i x (cW T) = some v ∧ ix (T 10 v) + Dm T x j = Dm T i j ∧ ∀ y, cC T - d ≤ y → y < x → ∀ w, stf T i y (cW T) = some w → ¬ ix (T 10 w) + Dm T y j = Dm T i j) := by
  intro d
  induction d with
  | zero => intro _; exact ⟨fun _ x h1 h2 => by omega, fun v h => (by cases h)⟩
  | succ d ih =>
    intro hd
    obtain ⟨ih1, ih2⟩ := ih (by omega)
    have skip : (∀ w, stf T i (cC T - (d + 1)) (cW T) = some w → ¬ ix (T 10 w) + Dm T (cC T - (d + 1)) j = Dm T i j) → fw T i j (d + 1) = fw T i j d → (fw T i j (d + 1) = none → ∀ x, cC T - (d + 1) ≤ x → x < cC T → ∀ w, stf T i x (cW T) = some w → ¬ ix (T 10 w) + Dm T x j = Dm T i j) ∧ (∀ v, fw T i j (d + 1) = some v → ∃ x, cC T - (d + 1) ≤ x ∧ x < cC T ∧ stf T i x (cW T) = some v ∧ ix (T 10 v) + Dm T x j = Dm T i j ∧ ∀ y, cC T - (d + 1) ≤ y → y < x → ∀ w, stf T i y (cW T) = some w → ¬ ix (T 10 w) + Dm T y j = Dm T i j) := by
      intro hno he
      rw [he]
      refine ⟨fun h x h1 h2 w hw => ?_, fun v h => ?_⟩
      · by_cases q : x = cC T - (d + 1)
        · subst q; exact hno w hw
        · exact ih1 h x (by omega) h2 w hw
      · obtain ⟨x, x1, x2, x3, x4, x5⟩ := ih2 v h
        refine ⟨x, by omega, x2, x3, x4, fun y y1 y2 w hw => ?_⟩
        by_cases q : y = cC T - (d + 1)
        · subst q; exact hno w hw
        · exact x5 y (by omega) y2 w hw
    cases e : stf T i (cC T - (d + 1)) (cW T) with
    | none =>
      refine skip (fun w hw => by rw [e] at hw; cases hw) ?_
      simp only [fw, e]
    | some w =>
      by_cases c : ix (T 10 w) + Dm T (cC T - (d + 1)) j = Dm T i j
      · have he : fw T i j (d + 1) = some w := by simp only [fw, e, c, if_true]
        rw [he]
        refine ⟨fun h => (by cases h), fun v h => ?_⟩
        cases h
        exact ⟨cC T - (d + 1), Nat.le_refl _, by omega, e, c, fun y h1 h2 => by omega⟩
      · refine skip (fun v hv => by rw [e] at hv; cases hv; exact c) ?_
        simp only [fw, e, c, if_false]
theorem cd_mk {i j w x : Nat} (h1 : ot T w i = some x) (h2 : Dm T x j < 1000000) (h3 : ix (T 10 w) + Dm T x j = Dm T i j) : cd T i j w = true := by
  unfold cd; rw [h1]; simp [h2, h3]
theorem fw_nwf (hN : NT T) {W : Nat → Nat → Nat → Prop} (hL : LW (Dm T) W) (hW : ∀ w x y, w < cW T → ot T w x = some y → W x y (ix (T 10 w))) {i j : Nat} (hi : i < 10) (hj : j < 10) : fw T i j (cC T) = nwf T i j (cW T) := by
  obtain ⟨F1, F2⟩ := fw_spec (T := T) (i := i) (j := j) (cC T) (Nat.le_refl _)
  obtain ⟨N1, N2⟩ := nwf_spec (T := T) (i := i) (j := j) (cW T)
  have hC := hN.nC
  -- a wire of a way is a straight one of the fewest minutes
  have key : ∀ w, w < cW T → cd T i j w = true → ∃ x v, x < cC T ∧ ot T w i = some x ∧ stf T i x (cW T) = some v ∧ ix (T 10 v) = ix (T 10 w) ∧ v ≤ w ∧ ix (T 10 v) + Dm T x j = Dm T i j := by
    intro w hw hc
    obtain ⟨x, h1, h2, h3⟩ := cd_ot hc
    have hx := (ot_lt hN hw h1).1
    cases e : stf T i x (cW T) with
    | none => exact absurd h1 ((stf_spec (cW T)).1 e w hw)
    | some v =>
      obtain ⟨g1, g2, g3⟩ := (stf_spec (T := T) (i := i) (j := x) (cW T)).2 v e
      have r := hL.2.2.1 i x _ (hW v i x g1 g2) j hj
      have q := g3 w hw h1
      refine ⟨x, v, hx, h1, e, by omega, by omega, by omega⟩
  cases e : fw T i j (cC T) with
  | none =>
    cases e2 : nwf T i j (cW T) with
    | none => rfl
    | some w =>
      obtain ⟨g1, g2, -⟩ := N2 w e2
      obtain ⟨x, v, hx, -, hs, -, -, he⟩ := key w g1 g2
      exact absurd he (F1 e x (by omega) hx v hs)
  | some v =>
    obtain ⟨x, x1, x2, x3, x4, x5⟩ := F2 v e
    obtain ⟨g1, g2, g3⟩ := (stf_spec (T := T) (i := i) (j := x) (cW T)).2 v x3
    have t1 := (hN.2.2.1 v g1).2.2.2.2.1
    have dl := hL.2.1 i j hi hj
    have cv : cd T i j v = true := cd_mk g2 (by omega) x4
    cases e2 : nwf T i j (cW T) with
    | none => exact absurd cv (N1 e2 v g1)
    | some w =>
      obtain ⟨w1, w2, w3⟩ := N2 w e2
      obtain ⟨y, u, hy, ho, hs, hu1, hu2, hu3⟩ := key w w1 w2
      have q := w3 v g1 cv
      rw [ho, g2, Option.getD_some, Option.getD_some] at q
      have nlt : ¬ y < x := fun q2 => x5 y (by omega) q2 u hs hu3
      have exy : y = x := by omega
      subst exy
      rw [x3] at hs
      cases hs
      have : v = w := by omega
      rw [this]
end PSh
