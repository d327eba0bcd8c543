section PRk
variable {b : Nat} {ad : Ad} {T T2 U : Tb} {Q : Qs} {σ : PH} {s k : Nat}
def tE (U : Tb) (E : Nat → Nat → Nat) : Tb := t13 U (fun i => if i < 100 then nI (E (i / 10) (i % 10)) else U 13 i)
def upE (E : Nat → Nat → Nat) (a v x : Nat) : Nat → Nat → Nat := fun i j => if i = a ∧ j = v then x else E i j
theorem tE_r {E : Nat → Nat → Nat} {a v : Nat} (ha : a < 10) (hv : v < 10) : tE U E 13 (10 * a + v) = nI (E a v) := by
  show (if 10 * a + v < 100 then nI (E ((10 * a + v) / 10) ((10 * a + v) % 10)) else U 13 (10 * a + v)) = _
  rw [if_pos (by omega), show (10 * a + v) / 10 = a by omega, show (10 * a + v) % 10 = v by omega]
theorem tE_u {E : Nat → Nat → Nat} {a v x : Nat} (ha : a < 10) (hv : v < 10) : x_up (tE U E) 13 (10 * a + v) (nI x) = tE U (upE E a v x) := by
  unfold tE
  rw [t13_up]
  congr 1
  funext i
  unfold upE
  by_cases c : i = 10 * a + v
  · rw [if_pos c, if_pos (by omega), if_pos (by omega)]
  · rw [if_neg c]
    by_cases c2 : i < 100
    · rw [if_pos c2, if_pos c2, if_neg (by omega)]
    · rw [if_neg c2, if_neg c2]
def sE (E : Nat → Nat → Nat) : Nat := sT (fun i => E (i / 10) (i % 10)) 100
theorem sE_u {E : Nat → Nat → Nat} {a v x : Nat} (ha : a < 10) (hv : v < 10) (hx : x < E a v) : sE (upE E a v x) < sE E := by
  unfold sE
  refine sT_lt (j := 10 * a + v) (by omega) (fun i hi => ?_) ?_
  · unfold upE
    by_cases c : i / 10 = a ∧ i % 10 = v
    · rw [if_pos c, c.1, c.2]; omega
    · rw [if_neg c]; exact Nat.le_refl _
  · unfold upE
    rw [show (10 * a + v) / 10 = a by omega, show (10 * a + v) % 10 = v by omega, if_pos ⟨rfl, rfl⟩]
    exact hx
def IE (U : Tb) (E : Nat → Nat → Nat) : Prop := (∀ i, i < 10 → E i i = 0) ∧ (∀ i j, i < 10 → j < 10 → E i j ≤ 1000000) ∧ (∀ i j, i < 10 → j < 10 → i ≠ j → E i j < 1000000 → ∃ l t, WR U i l t ∧ t + E l j ≤ E i j)
theorem WR_b (hN : NT U) {i l t : Nat} (h : WR U i l t) : i < 10 ∧ l < 10 ∧ i ≠ l ∧ 1 ≤ t ∧ t ≤ 60 ∧ WR U l i t := by
  have hC := hN.nC
  obtain ⟨w, hw, e, q⟩ := h
  obtain ⟨w8, w9, wn, w10, w1, -⟩ := hN.2.2.1 w hw
  have x8 := w8.2
  have x9 := w9.2
  have x10 := w10.2
  rcases q with ⟨q1, q2⟩ | ⟨q1, q2⟩
  · exact ⟨by omega, by omega, by omega, by omega, by omega, ⟨w, hw, e, Or.inr ⟨q2, q1⟩⟩⟩
  · exact ⟨by omega, by omega, by omega, by omega, by omega, ⟨w, hw, e, Or.inl ⟨q2, q1⟩⟩⟩
theorem IE.up (hN : NT U) {E : Nat → Nat → Nat} (h : IE U E) {a l t v : Nat} (hw : WR U a l t) (hv : v < 10) (hx : E l v + t < E a v) : IE U (upE E a v (E l v + t)) := by
  obtain ⟨h0, h1, h2⟩ := h
  obtain ⟨ba, bl, bne, -, -, -⟩ := WR_b hN hw
  have le : ∀ i j, upE E a v (E l v + t) i j ≤ E i j := fun i j => by
    unfold upE
    by_cases c : i = a ∧ j = v
    · rw [if_pos c, c.1, c.2]; omega
    · rw [if_neg c]; exact Nat.le_refl _
  refine ⟨fun i hi => ?_, fun i j hi hj => Nat.le_trans (le i j) (h1 i j hi hj), fun i j hi hj hne hd => ?_⟩
  · have := le i i
    have := h0 i hi
    omega
  · by_cases c : i = a ∧ j = v
    · obtain ⟨rfl, rfl⟩ := c
      refine ⟨l, t, hw, ?_⟩
      unfold upE
      rw [if_neg (fun q => bne q.1.symm), if_pos ⟨rfl, rfl⟩]
      omega
    · have e : upE E a v (E l v + t) i j = E i j := if_neg c
      rw [e] at hd ⊢
      obtain ⟨l', t', w', q⟩ := h2 i j hi hj hne hd
      have := le l' j
      exact ⟨l', t', w', by omega⟩
def RLd (U : Tb) (E : Nat → Nat → Nat) (w v : Nat) : Prop := ∀ w' v', w' < cW U → v' < 10 → (w' < w ∨ (w' = w ∧ v' < v)) → E (ix (U 8 w')) v' ≤ E (ix (U 9 w')) v' + ix (U 10 w') ∧ E (ix (U 9 w')) v' ≤ E (ix (U 8 w')) v' + ix (U 10 w')
def RS (U : Tb) (z : Option (Unit × Tb)) : Prop := ∃ E, z = some ((), tE U E) ∧ LW E (WR U)
theorem IE.lw (hN : NT U) {E : Nat → Nat → Nat} (h : IE U E) (r : RLd U E (cW U) 0) : LW E (WR U) := by
  obtain ⟨h0, h1, h2⟩ := h
  have rel : ∀ i l t, WR U i l t → ∀ v, v < 10 → E i v ≤ E l v + t := by
    intro i l t hw v hv
    obtain ⟨w, w1, w2, w3⟩ := hw
    have := r w v w1 hv (Or.inl w1)
    rcases w3 with ⟨q1, q2⟩ | ⟨q1, q2⟩
    · rw [← q1, ← q2, ← w2]; exact this.1
    · rw [← q1, ← q2, ← w2]; exact this.2
  refine ⟨h0, h1, rel, fun i j hi hj hne hd => ?_, fun i l t hw => ?_⟩
  · obtain ⟨l, t, hw, q⟩ := h2 i j hi hj hne hd
    have := rel i l t hw j hj
    exact ⟨l, t, hw, by omega⟩
  · obtain ⟨q1, q2, -, q3, q4, q5⟩ := WR_b hN hw
    exact ⟨q1, q2, q3, q4, q5⟩
theorem J_all (hN : NT U) (F : Nat) : ∀ n,
    (∀ E m, m ≤ 1 → IE U E → (m = 0 → RLd U E (cW U) 0) → 1 + (m + sE E) * 332 ≤ n → RS U (tX9_reckons_J F n 0 (nI m) (0 : Int32) (0 : Int32) (0 : Int32) (0 : Int32) (tE U E))) ∧
    (∀ E m w, m ≤ 1 → w ≤ cW U → IE U E → (m = 0 → RLd U E w 0) → 22 * (cW U - w) + 2 + (m + sE E) * 332 ≤ n → RS U (tX9_reckons_J F n 1 (nI m) (nI w) (0 : Int32) (0 : Int32) (0 : Int32) (tE U E))) ∧
    (∀ E m w v, m ≤ 1 → w < cW U → v ≤ 10 → IE U E → (m = 0 → RLd U E w v) → 2 * (10 - v) + 22 * (cW U - w - 1) + 3 + (m + sE E) * 332 ≤ n → RS U (tX9_reckons_J F n 2 (nI m) (nI w) (nI v) (0 : Int32) (0 : Int32) (tE U E))) ∧
    (∀ E m w v, m ≤ 1 → w < cW U → v < 10 → IE U E → (m = 0 → RLd U E w v ∧ E (ix (U 8 w)) v ≤ E (ix (U 9 w)) v + ix (U 10 w)) → 2 * (9 - v) + 22 * (cW U - w - 1) + 4 + (m + sE E) * 332 ≤ n → RS U (tX9_reckons_J F n 3 (nI m) (nI w) (nI v) (nI (10 * ix (U 8 w) + v)) (nI (10 * ix (U 9 w) + v)) (tE U E))) := by
  have hC := hN.nC
  have hW := hN.nW
  have hT : U 7 0 = nI (cW U) := hN.2.1.1
  intro n
  induction n with
  | zero => exact ⟨fun _ _ _ _ _ h => by omega, fun _ _ _ _ _ _ _ h => by omega, fun _ _ _ _ _ _ _ _ _ h => by omega, fun _ _ _ _ _ _ _ _ _ h => by omega⟩
  | succ n ih =>
    obtain ⟨I0, I1, I2, I3⟩ := ih
    refine ⟨fun E m hm hE hR hb => ?_, fun E m w hm hw hE hR hb => ?_, fun E m w v hm hw hv hE hR hb => ?_, fun E m w v hm hw hv hE hR hb => ?_⟩
    · rw [tX9_reckons_J]
      by_cases c : m = 0
      · subst c
        refine ⟨E, ?_, hE.lw hN (hR rfl)⟩
        refine r_t rfl ?_
        refine r_t rfl ?_
        rfl
      · have c1 : m = 1 := by omega
        subst c1
        obtain ⟨E', g1, g2⟩ := I1 E 0 0 (by omega) (by omega) hE (fun _ w' v' h1 h2 h3 => by omega) (by omega)
        refine ⟨E', ?_, g2⟩
        refine r_t rfl ?_
        refine r_f (by decide) ?_
        exact g1
    · rw [tX9_reckons_J]
      by_cases c : w = cW U
      · obtain ⟨E', g1, g2⟩ := I0 E m hm hE (fun q => by rw [← c]; exact hR q) (by omega)
        refine ⟨E', ?_, g2⟩
        refine r_f (by decide) ?_
        refine r_t rfl ?_
        refine r_g hT ?_
        refine r_t (nI_le (by omega) (by omega)) ?_
        exact g1
      · obtain ⟨E', g1, g2⟩ := I2 E m w 0 hm (by omega) (by omega) hE hR (by omega)
        refine ⟨E', ?_, g2⟩
        refine r_f (by decide) ?_
        refine r_t rfl ?_
        refine r_g hT ?_
        refine r_f (nI_ge (by omega) (by omega)) ?_
        exact g1
    · rw [tX9_reckons_J]
      obtain ⟨w8, w9, wn, w10, w1, -⟩ := hN.2.2.1 w hw
      have x8 := w8.2
      have x9 := w9.2
      have x10 := w10.2
      have hw2 : w < 15 := by omega
      by_cases c : v = 10
      · obtain ⟨E', g1, g2⟩ := I1 E m (w + 1) hm (by omega) hE (fun q w' v' h1 h2 h3 => hR q w' v' h1 h2 (by omega)) (by omega)
        refine ⟨E', ?_, g2⟩
        refine r_f (by decide) ?_
        refine r_f (by decide) ?_
        refine r_t rfl ?_
        refine r_t (nI_le (a := 10) (by omega) (by omega)) ?_
        refine r_q ?_
        rw [nI_1]
        exact g1
      · have hv2 : v < 10 := by omega
        have l8 : 10 * ix (U 8 w) + v < 100 := by omega
        have l9 : 10 * ix (U 9 w) + v < 100 := by omega
        have e8 : (10 : Int32) * U 8 w + nI v = nI (10 * ix (U 8 w) + v) := by rw [← nI10, ← w8.1]
        have e9 : (10 : Int32) * U 9 w + nI v = nI (10 * ix (U 9 w) + v) := by rw [← nI10, ← w9.1]
        have r8 := tE_r (U := U) (E := E) (a := ix (U 8 w)) (v := v) (by omega) hv2
        have r9 := tE_r (U := U) (E := E) (a := ix (U 9 w)) (v := v) (by omega) hv2
        have b8 := hE.2.1 (ix (U 8 w)) v (by omega) hv2
        have b9 := hE.2.1 (ix (U 9 w)) v (by omega) hv2
        have es : nI (E (ix (U 9 w)) v) + U 10 w = nI (E (ix (U 9 w)) v + ix (U 10 w)) := by rw [← nI_add, ← w10.1]
        by_cases d : E (ix (U 8 w)) v ≤ E (ix (U 9 w)) v + ix (U 10 w)
        · obtain ⟨E', g1, g2⟩ := I3 E m w v hm hw hv2 hE (fun q => ⟨hR q, d⟩) (by omega)
          refine ⟨E', ?_, g2⟩
          refine r_f (by decide) ?_
          refine r_f (by decide) ?_
          refine r_t rfl ?_
          refine r_f (nI_ge (b := 10) hv2 (by decide)) ?_
          refine r_a rfl hw2 rfl ?_
          refine r_q ?_
          refine r_a rfl hw2 rfl ?_
          refine r_q ?_
          refine r_a e9 l9 r9 ?_
          refine r_a rfl hw2 rfl ?_
          refine r_a e8 l8 r8 ?_
          refine r_t (by show nI (E (ix (U 8 w)) v) ≤ nI (E (ix (U 9 w)) v) + U 10 w; rw [es]; exact nI_le d (by omega)) ?_
          show tX9_reckons_J F n 3 (nI m) (nI w) (nI v) ((10 : Int32) * U 8 w + nI v) ((10 : Int32) * U 9 w + nI v) (tE U E) = _
          rw [e8, e9]
          exact g1
        · have su := sE_u (E := E) (a := ix (U 8 w)) (v := v) (x := E (ix (U 9 w)) v + ix (U 10 w)) (by omega) hv2 (by omega)
          obtain ⟨E', g1, g2⟩ := I3 (upE E (ix (U 8 w)) v (E (ix (U 9 w)) v + ix (U 10 w))) 1 w v (by omega) hw hv2 (hE.up hN ⟨w, hw, rfl, Or.inl ⟨rfl, rfl⟩⟩ hv2 (by omega)) (fun q => by omega) (by omega)
          refine ⟨E', ?_, g2⟩
          refine r_f (by decide) ?_
          refine r_f (by decide) ?_
          refine r_t rfl ?_
          refine r_f (nI_ge (b := 10) hv2 (by decide)) ?_
          refine r_a rfl hw2 rfl ?_
          refine r_q ?_
          refine r_a rfl hw2 rfl ?_
          refine r_q ?_
          refine r_a e9 l9 r9 ?_
          refine r_a rfl hw2 rfl ?_
          refine r_a e8 l8 r8 ?_
          refine r_f (by show ¬ nI (E (ix (U 8 w)) v) ≤ nI (E (ix (U 9 w)) v) + U 10 w; rw [es]; exact nI_ge (by omega) (by omega)) ?_
          refine r_a e9 l9 r9 ?_
          refine r_a rfl hw2 rfl ?_
          refine r_s e8 l8 ?_
          show tX9_reckons_J F n 3 (1 : Int32) (nI w) (nI v) ((10 : Int32) * U 8 w + nI v) ((10 : Int32) * U 9 w + nI v) (x_up (tE U E) 13 (10 * ix (U 8 w) + v) (nI (E (ix (U 9 w)) v) + U 10 w)) = _
          rw [e8, e9, es, tE_u (by omega) hv2]
          exact g1
    · rw [tX9_reckons_J]
      obtain ⟨w8, w9, wn, w10, w1, -⟩ := hN.2.2.1 w hw
      have x8 := w8.2
      have x9 := w9.2
      have x10 := w10.2
      have hw2 : w < 15 := by omega
      have l8 : 10 * ix (U 8 w) + v < 100 := by omega
      have l9 : 10 * ix (U 9 w) + v < 100 := by omega
      have r8 := tE_r (U := U) (E := E) (a := ix (U 8 w)) (v := v) (by omega) hv
      have r9 := tE_r (U := U) (E := E) (a := ix (U 9 w)) (v := v) (by omega) hv
      have b8 := hE.2.1 (ix (U 8 w)) v (by omega) hv
      have b9 := hE.2.1 (ix (U 9 w)) v (by omega) hv
      have es : nI (E (ix (U 8 w)) v) + U 10 w = nI (E (ix (U 8 w)) v + ix (U 10 w)) := by rw [← nI_add, ← w10.1]
      by_cases d : E (ix (U 9 w)) v ≤ E (ix (U 8 w)) v + ix (U 10 w)
      · obtain ⟨E', g1, g2⟩ := I2 E m w (v + 1) hm hw (by omega) hE (fun q w' v' h1 h2 h3 => by
          obtain ⟨q1, q2⟩ := hR q
          by_cases c : w' = w ∧ v' = v
          · rw [c.1, c.2]; exact ⟨q2, d⟩
          · exact q1 w' v' h1 h2 (by omega)) (by omega)
        refine ⟨E', ?_, g2⟩
        refine r_f (by decide) ?_
        refine r_f (by decide) ?_
        refine r_f (by decide) ?_
        refine r_t rfl ?_
        refine r_a rfl l8 r8 ?_
        refine r_a rfl hw2 rfl ?_
        refine r_a rfl l9 r9 ?_
        refine r_t (by show nI (E (ix (U 9 w)) v) ≤ nI (E (ix (U 8 w)) v) + U 10 w; rw [es]; exact nI_le d (by omega)) ?_
        refine r_q ?_
        rw [nI_1]
        exact g1
      · have su := sE_u (E := E) (a := ix (U 9 w)) (v := v) (x := E (ix (U 8 w)) v + ix (U 10 w)) (by omega) hv (by omega)
        obtain ⟨E', g1, g2⟩ := I2 (upE E (ix (U 9 w)) v (E (ix (U 8 w)) v + ix (U 10 w))) 1 w (v + 1) (by omega) hw (by omega) (hE.up hN ⟨w, hw, rfl, Or.inr ⟨rfl, rfl⟩⟩ hv (by omega)) (fun q => by omega) (by omega)
        refine ⟨E', ?_, g2⟩
        refine r_f (by decide) ?_
        refine r_f (by decide) ?_
        refine r_f (by decide) ?_
        refine r_t rfl ?_
        refine r_a rfl l8 r8 ?_
        refine r_a rfl hw2 rfl ?_
        refine r_a rfl l9 r9 ?_
        refine r_f (by show ¬ nI (E (ix (U 9 w)) v) ≤ nI (E (ix (U 8 w)) v) + U 10 w; rw [es]; exact nI_ge (by omega) (by omega)) ?_
        refine r_a rfl l8 r8 ?_
        refine r_a rfl hw2 rfl ?_
        refine r_s rfl l9 ?_
        refine r_q ?_
        show tX9_reckons_J F n 2 (1 : Int32) (nI w) (nI v + 1) (0 : Int32) (0 : Int32) (x_up (tE U E) 13 (10 * ix (U 9 w) + v) (nI (E (ix (U 8 w)) v) + U 10 w)) = _
        rw [nI_1, es, tE_u (by omega) hv]
        exact g1
def E0 : Nat → Nat → Nat := fun i j => if i = j then 0 else 1000000
def r0 (U : Tb) (m x : Nat) : Int32 := if x < m then (if x % 11 = 0 then 0 else (1000000 : Int32)) else U 13 x
theorem r0_s {m : Nat} : (fun i => if i = m then (if m % 11 = 0 then 0 else (1000000 : Int32)) else r0 U m i) = r0 U (m + 1) := by
  funext i
  unfold r0
  by_cases c : i = m
  · rw [if_pos c, c, if_pos (show m < m + 1 by omega)]
  · rw [if_neg c]
    by_cases c2 : i < m
    · rw [if_pos c2, if_pos (show i < m + 1 by omega)]
    · rw [if_neg c2, if_neg (by omega)]
theorem r0_E : t13 U (r0 U 100) = tE U E0 := by
  unfold tE
  congr 1
  funext i
  unfold r0 E0
  by_cases c : i < 100
  · rw [if_pos c, if_pos c]
    by_cases c2 : i % 11 = 0
    · rw [if_pos c2, if_pos (by omega)]; rfl
    · rw [if_neg c2, if_neg (by omega)]; rfl
  · rw [if_neg c, if_neg c]
theorem t_reckL (hN : NT U) {F : Nat} (hF : 40000000000 < F) : ∀ (d n m : Nat), m + d = 100 → d < n → RS U (tX9_reckons_2 F n (nI m) (t13 U (r0 U m))) := by
  intro d
  induction d with
  | zero =>
    intro n m hm hn
    obtain ⟨n, rfl⟩ : ∃ q, n = q + 1 := ⟨n - 1, by omega⟩
    have e : m = 100 := by omega
    subst e
    rw [tX9_reckons_2, r0_E]
    have hE : IE U E0 := by
      refine ⟨fun i _ => if_pos rfl, fun i j _ _ => ?_, fun i j _ _ hne hd => ?_⟩
      · unfold E0; split <;> omega
      · unfold E0 at hd; rw [if_neg hne] at hd; omega
    have hS : sE E0 ≤ 100000000 := by
      have := sT_le (f := fun i => E0 (i / 10) (i % 10)) (g := fun _ => 1000000) (n := 100) (fun i _ => by unfold E0; split <;> omega)
      have e2 : sT (fun _ => 1000000) 100 = 100000000 := by decide +kernel
      unfold sE
      omega
    have hb : 1 + (1 + sE E0) * 332 ≤ F := by
      generalize sE E0 = S at hS ⊢
      omega
    obtain ⟨E', g1, g2⟩ := (J_all hN F F).1 E0 1 (Nat.le_refl _) hE (fun q => absurd q (by decide)) hb
    refine ⟨E', ?_, g2⟩
    refine r_t (nI_le (a := 100) (Nat.le_refl _) (by decide)) ?_
    exact g1
  | succ d ih =>
    intro n m hm hn
    obtain ⟨n, rfl⟩ : ∃ q, n = q + 1 := ⟨n - 1, by omega⟩
    have hm2 : m < 100 := by omega
    obtain ⟨E', g1, g2⟩ := ih n (m + 1) (by omega) (by omega)
    rw [← r0_s, ← t13_up] at g1
    have er : x_rem (nI m) (11 : Int32) = nI (m % 11) := pk_rem (d := 11) (by omega) (by decide) (by decide)
    refine ⟨E', ?_, g2⟩
    rw [tX9_reckons_2]
    by_cases c : m % 11 = 0
    · rw [if_pos c] at g1
      refine r_f (nI_ge (b := 100) hm2 (by decide)) ?_
      refine r_t (by rw [er, c]; rfl) ?_
      refine r_s rfl hm2 ?_
      refine r_q ?_
      rw [nI_1]
      exact g1
    · rw [if_neg c] at g1
      refine r_f (nI_ge (b := 100) hm2 (by decide)) ?_
      refine r_f (by rw [er]; exact nI_ne0 (by omega) (by omega)) ?_
      refine r_s rfl hm2 ?_
      refine r_q ?_
      rw [nI_1]
      exact g1
theorem t_reckons (hN : NT U) {F : Nat} (hF : 40000000000 < F) : RS U (tX9_reckons F U) := by
  have := t_reckL hN hF 100 F 0 (by omega) (by omega)
  have e : t13 U (r0 U 0) = U := by
    have : r0 U 0 = U 13 := by
      funext x
      unfold r0
      rw [if_neg (by omega)]
    rw [this]; exact t13_id
  rw [e] at this
  exact this
end PRk
