section PL
variable {b : Nat} {ad : Ad} {T T2 : Tb} {Q : Qs} {σ : PH} {s k : Nat}
/-- the laws of LEAST -/
def LW (D : Nat → Nat → Nat) (W : Nat → Nat → Nat → Prop) : Prop := (∀ i, i < 10 → D i i = 0) ∧ (∀ i j, i < 10 → j < 10 → D i j ≤ 1000000) ∧ (∀ i l t, W i l t → ∀ v, v < 10 → D i v ≤ D l v + t) ∧ (∀ i j, i < 10 → j < 10 → i ≠ j → D i j < 1000000 → ∃ l t, W i l t ∧ D i j = t + D l j) ∧ (∀ i l t, W i l t → i < 10 ∧ l < 10 ∧ 1 ≤ t ∧ t ≤ 60 ∧ W l i t)
def WR (T : Tb) (i l t : Nat) : Prop := ∃ w, w < cW T ∧ ix (T 10 w) = t ∧ ((ix (T 8 w) = i ∧ ix (T 9 w) = l) ∨ (ix (T 9 w) = i ∧ ix (T 8 w) = l))
theorem JT.lw (h : JT s T) : LW (Dm T) (WR T) := by
  have hC := h.nC
  refine ⟨h.dg, fun i j hi hj => ?_, fun i l t hw v hv => ?_, fun i j hi hj hne hd => ?_, fun i l t hw => ?_⟩
  · have := (h.ls (10 * i + j) (by omega)).2
    unfold Dm; omega
  · obtain ⟨w, hw, e, q⟩ := hw
    have := h.rl w v hw hv
    rcases q with ⟨q1, q2⟩ | ⟨q1, q2⟩
    · rw [← q1, ← q2, ← e]; exact this.1
    · rw [← q1, ← q2, ← e]; exact this.2
  · obtain ⟨w, hw, q⟩ := h.sp i j hi hj hne hd
    rcases q with ⟨q1, q2⟩ | ⟨q1, q2⟩
    · exact ⟨ix (T 9 w), ix (T 10 w), ⟨w, hw, rfl, Or.inl ⟨q1, rfl⟩⟩, q2⟩
    · exact ⟨ix (T 8 w), ix (T 10 w), ⟨w, hw, rfl, Or.inr ⟨q1, rfl⟩⟩, q2⟩
  · obtain ⟨w, hw, e, q⟩ := hw
    obtain ⟨w8, w9, -, w10, w1, -⟩ := h.wi w hw
    have x8 := w8.2
    have x9 := w9.2
    have x10 := w10.2
    rcases q with ⟨q1, q2⟩ | ⟨q1, q2⟩
    · exact ⟨by omega, by omega, by omega, by omega, ⟨w, hw, e, Or.inr ⟨q2, q1⟩⟩⟩
    · exact ⟨by omega, by omega, by omega, by omega, ⟨w, hw, e, Or.inl ⟨q2, q1⟩⟩⟩
variable {D E : Nat → Nat → Nat} {W : Nat → Nat → Nat → Prop}
theorem LW.tri (h : LW D W) {a j : Nat} (ha : a < 10) (hj : j < 10) : ∀ (d i : Nat), D i a = d → i < 10 → D i j ≤ d + D a j := by
  obtain ⟨h0, h1, h2, h3, h4⟩ := h
  intro d
  induction d using Nat.strongRecOn with
  | _ d ih =>
    intro i e hi
    by_cases c : i = a
    · subst c; omega
    · by_cases c2 : D i a < 1000000
      · obtain ⟨l, t, w, q⟩ := h3 i a hi ha c c2
        obtain ⟨-, hl, ht, -, -⟩ := h4 i l t w
        have r1 := ih (D l a) (by omega) l rfl hl
        have r2 := h2 i l t w j hj
        omega
      · have := h1 i j hi hj; omega
theorem LW.sym1 (h : LW D W) {j : Nat} (hj : j < 10) : ∀ (d i : Nat), D i j = d → i < 10 → D j i ≤ d := by
  have h' := h
  obtain ⟨h0, h1, h2, h3, h4⟩ := h
  intro d
  induction d using Nat.strongRecOn with
  | _ d ih =>
    intro i e hi
    by_cases c : i = j
    · subst c; omega
    · by_cases c2 : D i j < 1000000
      · obtain ⟨l, t, w, q⟩ := h3 i j hi hj c c2
        obtain ⟨-, hl, ht, -, w'⟩ := h4 i l t w
        have r1 := ih (D l j) (by omega) l rfl hl
        have r2 := h'.tri (a := l) (j := i) hl hi _ j rfl hj
        have r3 := h2 l i t w' i hi
        have := h0 i hi
        omega
      · have := h1 j i hj hi; omega
theorem LW.sym (h : LW D W) {i j : Nat} (hi : i < 10) (hj : j < 10) : D i j = D j i :=
  Nat.le_antisymm (h.sym1 hi _ j rfl hj) (h.sym1 hj _ i rfl hi)
theorem LW.uniq1 (h : LW D W) (g : LW E W) {j : Nat} (hj : j < 10) : ∀ (d i : Nat), D i j = d → i < 10 → E i j ≤ d := by
  obtain ⟨h0, h1, h2, h3, h4⟩ := h
  obtain ⟨g0, g1, g2, g3, g4⟩ := g
  intro d
  induction d using Nat.strongRecOn with
  | _ d ih =>
    intro i e hi
    by_cases c : i = j
    · subst c; have := g0 i hi; omega
    · by_cases c2 : D i j < 1000000
      · obtain ⟨l, t, w, q⟩ := h3 i j hi hj c c2
        obtain ⟨-, hl, ht, -, -⟩ := h4 i l t w
        have r1 := ih (D l j) (by omega) l rfl hl
        have r2 := g2 i l t w j hj
        omega
      · have := g1 i j hi hj; omega
theorem LW.uniq (h : LW D W) (g : LW E W) {i j : Nat} (hi : i < 10) (hj : j < 10) : D i j = E i j :=
  Nat.le_antisymm (g.uniq1 h hj _ i rfl hi) (h.uniq1 g hj _ i rfl hi)
/-- a wire more -/
def WA (W : Nat → Nat → Nat → Prop) (a c t : Nat) (i l u : Nat) : Prop := W i l u ∨ (u = t ∧ ((i = a ∧ l = c) ∨ (i = c ∧ l = a)))
def DA (D : Nat → Nat → Nat) (a c t : Nat) (i j : Nat) : Nat := min (D i j) (min (D i a + t + D c j) (D i c + t + D a j))
theorem DA_le {a c t i j : Nat} : DA D a c t i j ≤ D i j ∧ DA D a c t i j ≤ D i a + t + D c j ∧ DA D a c t i j ≤ D i c + t + D a j := by
  unfold DA; omega
theorem DA_or {a c t i j : Nat} : DA D a c t i j = D i j ∨ DA D a c t i j = D i a + t + D c j ∨ DA D a c t i j = D i c + t + D a j := by
  unfold DA; omega
theorem LW.add (h : LW D W) {a c t : Nat} (ha : a < 10) (hc : c < 10) (ht : 1 ≤ t ∧ t ≤ 60) : LW (DA D a c t) (WA W a c t) := by
  have h' := h
  obtain ⟨h0, h1, h2, h3, h4⟩ := h
  have a0 := h0 a ha
  have c0 := h0 c hc
  have rel : ∀ i l u, WA W a c t i l u → ∀ v, v < 10 → DA D a c t i v ≤ DA D a c t l v + u := by
    intro i l u hw v hv
    have p := @DA_le D a c t i v
    rcases hw with hw | ⟨rfl, ⟨rfl, rfl⟩ | ⟨rfl, rfl⟩⟩
    · have q1 := h2 i l u hw v hv
      have q2 := h2 i l u hw a ha
      have q3 := h2 i l u hw c hc
      rcases @DA_or D a c t l v with e | e | e <;> omega
    · rcases @DA_or D i l u l v with e | e | e <;> omega
    · rcases @DA_or D l i u l v with e | e | e <;> omega
  refine ⟨fun i hi => ?_, fun i j hi hj => ?_, rel, fun i j hi hj hne hd => ?_, fun i l u hw => ?_⟩
  · have := h0 i hi; unfold DA; omega
  · have := h1 i j hi hj; unfold DA; omega
  · have fin : ∀ l u, WA W a c t i l u → DA D a c t l j + u ≤ DA D a c t i j → ∃ l u, WA W a c t i l u ∧ DA D a c t i j = u + DA D a c t l j := by
      intro l u hw hq
      have := rel i l u hw j hj
      exact ⟨l, u, hw, by omega⟩
    rcases @DA_or D a c t i j with e | e | e
    · obtain ⟨l, u, w, q⟩ := h3 i j hi hj hne (by omega)
      have p := @DA_le D a c t l j
      exact fin l u (Or.inl w) (by omega)
    · by_cases c1 : i = a
      · have p := @DA_le D a c t c j
        rw [c1] at e ⊢
        rw [c1] at fin
        exact fin c t (Or.inr ⟨rfl, Or.inl ⟨rfl, rfl⟩⟩) (by omega)
      · obtain ⟨l, u, w, q⟩ := h3 i a hi ha c1 (by omega)
        have p := @DA_le D a c t l j
        exact fin l u (Or.inl w) (by omega)
    · by_cases c1 : i = c
      · have p := @DA_le D a c t a j
        rw [c1] at e ⊢
        rw [c1] at fin
        exact fin a t (Or.inr ⟨rfl, Or.inr ⟨rfl, rfl⟩⟩) (by omega)
      · obtain ⟨l, u, w, q⟩ := h3 i c hi hc c1 (by omega)
        have p := @DA_le D a c t l j
        exact fin l u (Or.inl w) (by omega)
  · rcases hw with hw | ⟨rfl, ⟨rfl, rfl⟩ | ⟨rfl, rfl⟩⟩
    · obtain ⟨q1, q2, q3, q4, q5⟩ := h4 i l u hw
      exact ⟨q1, q2, q3, q4, Or.inl q5⟩
    · exact ⟨ha, hc, ht.1, ht.2, Or.inr ⟨rfl, Or.inr ⟨rfl, rfl⟩⟩⟩
    · exact ⟨hc, ha, ht.1, ht.2, Or.inr ⟨rfl, Or.inl ⟨rfl, rfl⟩⟩⟩
/-- in place: what lies between the old and the new gives the new -/
theorem LW.mid (h : LW D W) {a c t i j : Nat} (ha : a < 10) (hc : c < 10) (hi : i < 10) (hj : j < 10) {x1 x2 x3 x4 : Nat} (e1 : DA D a c t i a ≤ x1 ∧ x1 ≤ D i a) (e2 : DA D a c t c j ≤ x2 ∧ x2 ≤ D c j) (e3 : DA D a c t i c ≤ x3 ∧ x3 ≤ D i c) (e4 : DA D a c t a j ≤ x4 ∧ x4 ≤ D a j) : min (D i j) (min (x1 + t + x2) (x3 + t + x4)) = DA D a c t i j := by
  have a0 := h.1 a ha
  have c0 := h.1 c hc
  have t1 := h.tri ha hj _ i rfl hi
  have t2 := h.tri hc hj _ i rfl hi
  have t3 := h.tri ha hc _ i rfl hi
  have t4 := h.tri hc ha _ i rfl hi
  have t5 := h.tri ha hj _ c rfl hc
  have t6 := h.tri hc hj _ a rfl ha
  have p1 : D i a ≤ DA D a c t i a ∨ D i c + t ≤ DA D a c t i a := by unfold DA; omega
  have p2 : D c j ≤ DA D a c t c j ∨ D a j + t ≤ DA D a c t c j := by unfold DA; omega
  have p3 : D i c ≤ DA D a c t i c ∨ D i a + t ≤ DA D a c t i c := by unfold DA; omega
  have p4 : D a j ≤ DA D a c t a j ∨ D c j + t ≤ DA D a c t a j := by unfold DA; omega
  unfold DA at *
  omega
end PL
