section PN7
variable {b : Nat} {ad : Ad} {T T2 : Tb} {Q : Qs} {σ : PH} {s k : Nat}
def t13 (T : Tb) (r : Nat → Int32) : Tb := fun k i => if k = 13 then r i else T k i
theorem t13_up {r : Nat → Int32} {j : Nat} {v : Int32} : x_up (t13 T r) 13 j v = t13 T (fun i => if i = j then v else r i) := by
  refine up_ext (fun x y => ?_)
  rw [x_upA]
  unfold t13
  by_cases c : x = 13
  · subst c
    by_cases c2 : y = j
    · simp [c2]
    · simp [c2]
  · simp [c]
theorem RX.u13 {r : Nat → Int32} (h : RX b ad (t13 T r) Q σ) (j : Nat) (v : Int32) : RX b ad (t13 T (fun i => if i = j then v else r i)) Q (x_uA σ (b + 4) j v) := by
  obtain ⟨hfK, hfL, hfR, hwf, hk1, hk2, hk4, hk5, hk7, hk6, hkd, hj1, hj2, hj4, hj5, hj7, hj6, hjd, hc0, hc1, hc2, hc3, hc4, hc5, hw0, hw2, hw3, hw4, hq0, hq2, hq3, hq4, hqn, hqz, ho0, ho1, ho3, ho4, ho5, ho6, ho7, ho8, ho9, ho10, ho11, ho12, hm0, hm1, hm2, hm3, hm4, hm5, hm6, hm7, hm8, hm9, hs0, hs2, hs3, hs1, hsd, hz804, hz805, hz806, hz808, hz809, hz810, hz300, hz301, hz2, ha1, ha7, ha4, ha2, hab, haf, hal⟩ := h
  exact ⟨hfK, hfL, hfR, hwf, hk1, hk2, hk4, hk5, hk7, hk6, hkd, hj1, hj2, hj4, hj5, hj7, hj6, hjd, hc0, hc1, hc2, hc3, hc4, hc5, hw0, hw2, hw3, hw4, hq0, hq2, hq3, hq4, hqn, hqz, ho0, ho1, ho3, ho4, ho5, ho6, ho7, ho8, ho9, ho10, ho11, ho12, hm0, hm1, hm2, hm3, hm4, hm5, hm6, hm7, hm8, hm9, hs0, hs2, hs3, hs1, (fun i hi hq l hl => by
    have := (hkd i hi hq).2.2
    show (if ad 10 i = b + 4 ∧ l = j then v else x_A σ (ad 10 i) l) = T 45 (13 * i + l)
    rw [if_neg (by omega)]; exact hsd i hi hq l hl), hz804, hz805, hz806, hz808, hz809, hz810, hz300, hz301, hz2, ha1, ha7, ha4, ha2, (fun i hi => by
    show (if b + 8 = b + 4 ∧ i = j then v else x_A σ (b + 8) i) = T 15 i
    rw [if_neg (by omega)]; exact hab i hi), (fun i hi => by
    show (if b + 9 = b + 4 ∧ i = j then v else x_A σ (b + 9) i) = T 16 i
    rw [if_neg (by omega)]; exact haf i hi), (fun i hi => by
    show (if b + 4 = b + 4 ∧ i = j then v else x_A σ (b + 4) i) = (if i = j then v else r i)
    by_cases e : i = j
    · rw [if_pos ⟨rfl, e⟩, if_pos e]
    · rw [if_neg (fun q => e q.2), if_neg e]; exact hal i hi)⟩
theorem RX.uQ5 (h : RX b ad T Q σ) (c i : Nat) (hc : c = b + 5 ∨ c = b + 6) (v : Option Nat) : RX b ad T Q (x_uQ σ c i v) := by
  obtain ⟨hfK, hfL, hfR, hwf, hk1, hk2, hk4, hk5, hk7, hk6, hkd, hj1, hj2, hj4, hj5, hj7, hj6, hjd, hc0, hc1, hc2, hc3, hc4, hc5, hw0, hw2, hw3, hw4, hq0, hq2, hq3, hq4, hqn, hqz, ho0, ho1, ho3, ho4, ho5, ho6, ho7, ho8, ho9, ho10, ho11, ho12, hm0, hm1, hm2, hm3, hm4, hm5, hm6, hm7, hm8, hm9, hs0, hs2, hs3, hs1, hsd, hz804, hz805, hz806, hz808, hz809, hz810, hz300, hz301, hz2, ha1, ha7, ha4, ha2, hab, haf, hal⟩ := h
  exact ⟨hfK, hfL, hfR, hwf, hk1, hk2, hk4, hk5, hk7, hk6, hkd, hj1, hj2, hj4, hj5, hj7, hj6, hjd, hc0, hc1, hc2, hc3, hc4, hc5, hw0, hw2, hw3, hw4, hq0, hq2, hq3, hq4, hqn, hqz, ho0, ho1, ho3, ho4, ho5, ho6, ho7, ho8, ho9, ho10, ho11, ho12, hm0, hm1, hm2, hm3, hm4, hm5, hm6, hm7, hm8, hm9, hs0, hs2, hs3, hs1, hsd, hz804, hz805, hz806, hz808, hz809, hz810, hz300, hz301, hz2, (fun j hj => by
    show (if b + 2 = c ∧ j = i then v else x_Q σ (b + 2) j) = _
    rw [if_neg (by omega)]; exact ha1 j hj), (fun j hj => by
    show (if b + 3 = c ∧ j = i then v else x_Q σ (b + 3) j) = _
    rw [if_neg (by omega)]; exact ha7 j hj), (fun j hj => by
    show (if b + 10 = c ∧ j = i then v else x_Q σ (b + 10) j) = _
    rw [if_neg (by omega)]; exact ha4 j hj), (fun j hj => by
    show (if b + 11 = c ∧ j = i then v else x_Q σ (b + 11) j) = _
    rw [if_neg (by omega)]; exact ha2 j hj), hab, haf, hal⟩
def tW (T : Tb) (a c t : Int32) : Tb := x_up (x_up (x_up (x_up T 8 (cW T) a) 9 (cW T) c) 10 (cW T) t) 7 0 (nI (cW T + 1))
def qw (T : Tb) (Q : Qs) : Qs := fun k => if k < 2 * cW T then Q k else []
theorem RX.newW (h : RX b ad T Q σ) (hJ : JT s T) (hn : cW T < 15) {w q1 q2 : Nat} {a c t : Int32} (f0 : ∀ i, i < cW T → ad 7 i ≠ w) (f1 : ∀ i, i < 2 * cW T → ad 5 i ≠ q1 ∧ ad 5 i ≠ q2) (f2 : q1 ≠ q2) (kw : x_K σ w = 8) (k1 : x_K σ q1 = 6) (k2 : x_K σ q2 = 6) (w0 : x_R σ 700 w = some q1) (w1 : x_R σ 701 w = some q2) (w2 : x_I σ 702 w = t) (w3 : x_I σ 703 w = 0) (w4 : x_I σ 704 w = 0) (p0 : x_R σ 500 q1 = some (ad 1 (ix a))) (p1 : x_R σ 501 q1 = some (ad 1 (ix c))) (p2 : x_I σ 502 q1 = 0) (p3 : x_R σ 503 q1 = none) (p4 : x_R σ 504 q1 = none) (r0 : x_R σ 500 q2 = some (ad 1 (ix c))) (r1 : x_R σ 501 q2 = some (ad 1 (ix a))) (r2 : x_I σ 502 q2 = 0) (r3 : x_R σ 503 q2 = none) (r4 : x_R σ 504 q2 = none) : RX b (x_up (x_up (x_up ad 7 (cW T) w) 5 (2 * cW T) q1) 5 (2 * cW T + 1) q2) (tW T a c t) (qw T Q) (x_uI (x_uQ σ (b + 3) (cW T) (some w)) 301 (b + 1) (nI (cW T + 1))) := by
  have eW : cW (tW T a c t) = cW T + 1 := ix_nI (by omega)
  obtain ⟨z11, z12⟩ := hJ.fW (cW T) (Nat.le_refl _)
  have U7 : ∀ i, i < cW T → x_up (x_up (x_up ad 7 (cW T) w) 5 (2 * cW T) q1) 5 (2 * cW T + 1) q2 7 i = ad 7 i := fun i hi => (up_lt hi : x_up ad 7 (cW T) w 7 i = ad 7 i)
  have V7 : x_up (x_up (x_up ad 7 (cW T) w) 5 (2 * cW T) q1) 5 (2 * cW T + 1) q2 7 (cW T) = w := x_up_s ad 7 (cW T) w
  have U5 : ∀ i, i < 2 * cW T → x_up (x_up (x_up ad 7 (cW T) w) 5 (2 * cW T) q1) 5 (2 * cW T + 1) q2 5 i = ad 5 i := fun i hi => by
    rw [x_up_n _ _ _ _ (by omega), x_up_n _ _ _ _ (by omega)]
    rfl
  have V5 : x_up (x_up (x_up ad 7 (cW T) w) 5 (2 * cW T) q1) 5 (2 * cW T + 1) q2 5 (2 * cW T) = q1 := by
    rw [x_up_n _ _ _ _ (by omega), x_up_s]
  have V5' : x_up (x_up (x_up ad 7 (cW T) w) 5 (2 * cW T) q1) 5 (2 * cW T + 1) q2 5 (2 * cW T + 1) = q2 := x_up_s _ _ _ _
  generalize hA : x_up (x_up (x_up ad 7 (cW T) w) 5 (2 * cW T) q1) 5 (2 * cW T + 1) q2 = ad' at U7 V7 U5 V5 V5' ⊢
  have A1 : ad' 1 = ad 1 := by rw [← hA]; rfl
  have A2 : ad' 2 = ad 2 := by rw [← hA]; rfl
  have A4 : ad' 4 = ad 4 := by rw [← hA]; rfl
  have A6 : ad' 6 = ad 6 := by rw [← hA]; rfl
  have A10 : ad' 10 = ad 10 := by rw [← hA]; rfl
  have t8 : ∀ i, i < cW T → tW T a c t 8 i = T 8 i := fun i hi => (up_lt hi : x_up T 8 (cW T) a 8 i = T 8 i)
  have v8 : tW T a c t 8 (cW T) = a := x_up_s T 8 (cW T) a
  have t9 : ∀ i, i < cW T → tW T a c t 9 i = T 9 i := fun i hi => (up_lt hi : x_up T 9 (cW T) c 9 i = T 9 i)
  have v9 : tW T a c t 9 (cW T) = c := x_up_s T 9 (cW T) c
  have en1 : ∀ k, k < 2 * cW T → en (tW T a c t) k = en T k := fun k hk => by
    unfold en; rw [t8 _ (by omega), t9 _ (by omega)]
  have en2 : en (tW T a c t) (2 * cW T) = ix a := by
    unfold en; rw [if_pos (by omega), show 2 * cW T / 2 = cW T by omega, v8]
  have en3 : en (tW T a c t) (2 * cW T + 1) = ix c := by
    unfold en; rw [if_neg (by omega), show (2 * cW T + 1) / 2 = cW T by omega, v9]
  have sw2 : sw (2 * cW T) = 2 * cW T + 1 := by unfold sw; rw [if_pos (by omega)]
  have sw3 : sw (2 * cW T + 1) = 2 * cW T := by unfold sw; rw [if_neg (by omega)]; omega
  have Q1 : ∀ k, k < 2 * cW T → qw T Q k = Q k := fun k hk => if_pos hk
  have Q2 : ∀ k, ¬ k < 2 * cW T → qw T Q k = [] := fun k hk => if_neg hk
  have lt5 : ∀ i, i < 2 * cW (tW T a c t) → i < 2 * cW T ∨ i = 2 * cW T ∨ i = 2 * cW T + 1 := fun i hi => by rw [eW] at hi; omega
  have lt7 : ∀ i, i < cW (tW T a c t) → i < cW T ∨ i = cW T := fun i hi => by rw [eW] at hi; omega
  obtain ⟨hfK, hfL, hfR, hwf, hk1, hk2, hk4, hk5, hk7, hk6, hkd, hj1, hj2, hj4, hj5, hj7, hj6, hjd, hc0, hc1, hc2, hc3, hc4, hc5, hw0, hw2, hw3, hw4, hq0, hq2, hq3, hq4, hqn, hqz, ho0, ho1, ho3, ho4, ho5, ho6, ho7, ho8, ho9, ho10, ho11, ho12, hm0, hm1, hm2, hm3, hm4, hm5, hm6, hm7, hm8, hm9, hs0, hs2, hs3, hs1, hsd, hz804, hz805, hz806, hz808, hz809, hz810, hz300, hz301, hz2, ha1, ha7, ha4, ha2, hab, haf, hal⟩ := h
  refine ⟨hfK, hfL, hfR, hwf, (by rw [A1]; exact hk1), (by rw [A2]; exact hk2), (by rw [A4]; exact hk4), ?_, (new_at (g := x_K σ) (t := fun _ => 8) (t' := fun _ => 8) eW hk7 U7 (fun _ _ => rfl) (by rw [V7]; exact kw)), (by rw [A6]; exact hk6), (by rw [A10]; exact hkd), (by rw [A1]; exact hj1), (by rw [A2]; exact hj2), (by rw [A4]; exact hj4), ?_, (new_j eW hj7 U7 V7 f0), (by rw [A6]; exact hj6), (by rw [A10]; exact hjd), (by rw [A1]; exact hc0), (by rw [A1]; exact hc1), (by rw [A1]; exact hc2), (by rw [A1]; exact hc3), (by rw [A1]; exact hc4), (by rw [A1]; exact hc5), ?_, (new_at (g := x_I σ 702) (t' := fun i => tW T a c t 10 i) eW hw2 U7 (fun i hi => (up_lt hi : x_up T 10 (cW T) t 10 i = T 10 i)) (by rw [V7]; exact w2.trans (x_up_s T 10 (cW T) t).symm)), (new_at (g := x_I σ 703) (t' := fun i => tW T a c t 11 i) eW hw3 U7 (fun _ _ => rfl) (by rw [V7]; exact w3.trans z11.symm)), (new_at (g := x_I σ 704) (t' := fun i => tW T a c t 12 i) eW hw4 U7 (fun _ _ => rfl) (by rw [V7]; exact w4.trans z12.symm)), ?_, ?_, ?_, ?_, ?_, (by rw [A2]; exact hqz), (by rw [A4]; exact ho0), (by rw [A1, A4]; exact ho1), (by rw [A4]; exact ho3), (by rw [A4]; exact ho4), (by rw [A4]; exact ho5), (by rw [A4]; exact ho6), (by rw [A4]; exact ho7), (by rw [A4]; exact ho8), (by rw [A4]; exact ho9), (by rw [A4]; exact ho10), (by rw [A4]; exact ho11), (by rw [A4]; exact ho12), (by rw [A2]; exact hm0), (by rw [A2, A4]; exact hm1), (by rw [A1, A2]; exact hm2), (by rw [A1, A2]; exact hm3), (by rw [A2, A6]; exact hm4), (by rw [A1, A2]; exact hm5), (by rw [A1, A2]; exact hm6), (by rw [A2]; exact hm7), (by rw [A2]; exact hm8), (by rw [A2]; exact hm9), (by rw [A6]; exact hs0), (by rw [A6]; exact hs2), (by rw [A6]; exact hs3), (by rw [A6, A10]; exact hs1), (by rw [A10]; exact hsd), hz804, hz805, hz806, hz808, hz809, hz810, hz300, (by rw [I_uI, if_pos ⟨rfl, rfl⟩]; rfl), hz2, ?_, ?_, ?_, ?_, hab, haf, hal⟩
  · intro i hi
    show x_K σ (ad' 5 i) = 6
    rcases lt5 i hi with e | e | e
    · rw [U5 i e]; exact hk5 i e
    · rw [e, V5]; exact k1
    · rw [e, V5']; exact k2
  · intro i j hi hj
    rcases lt5 i hi with e | e | e
    · rcases lt5 j hj with e' | e' | e'
      · rw [U5 i e, U5 j e']; exact hj5 i j e e'
      · rw [U5 i e, e', V5]; exact ⟨fun q => absurd q (f1 i e).1, fun q => by omega⟩
      · rw [U5 i e, e', V5']; exact ⟨fun q => absurd q (f1 i e).2, fun q => by omega⟩
    · rcases lt5 j hj with e' | e' | e'
      · rw [U5 j e', e, V5]; exact ⟨fun q => absurd q.symm (f1 j e').1, fun q => by omega⟩
      · rw [e, e']; simp
      · rw [e, e', V5, V5']; exact ⟨fun q => absurd q f2, fun q => by omega⟩
    · rcases lt5 j hj with e' | e' | e'
      · rw [U5 j e', e, V5']; exact ⟨fun q => absurd q.symm (f1 j e').2, fun q => by omega⟩
      · rw [e, e', V5, V5']; exact ⟨fun q => absurd q.symm f2, fun q => by omega⟩
      · rw [e, e']; simp
  · intro i hi
    show x_R σ 700 (ad' 7 i) = some (ad' 5 (2 * i)) ∧ x_R σ 701 (ad' 7 i) = some (ad' 5 (2 * i + 1))
    rcases lt7 i hi with e | e
    · rw [U7 i e, U5 _ (by omega), U5 _ (by omega)]; exact hw0 i e
    · rw [e, V7, V5, V5']; exact ⟨w0, w1⟩
  · intro i hi
    show x_R σ 500 (ad' 5 i) = some (ad' 1 (en (tW T a c t) i)) ∧ x_R σ 501 (ad' 5 i) = some (ad' 1 (en (tW T a c t) (sw i)))
    rw [A1]
    rcases lt5 i hi with e | e | e
    · rw [U5 i e, en1 i e, en1 _ (sw_lt e)]; exact hq0 i e
    · rw [e, V5, sw2, en2, en3]; exact ⟨p0, p1⟩
    · rw [e, V5', sw3, en2, en3]; exact ⟨r0, r1⟩
  · intro i hi
    show x_I σ 502 (ad' 5 i) = _
    rcases lt5 i hi with e | e | e
    · rw [U5 i e, Q1 i e]; exact hq2 i e
    · rw [Q2 i (by omega), e, V5]; exact p2
    · rw [Q2 i (by omega), e, V5']; exact r2
  · intro i hi
    show x_R σ 503 (ad' 5 i) = _
    rw [A2]
    rcases lt5 i hi with e | e | e
    · rw [U5 i e, Q1 i e]; exact hq3 i e
    · rw [Q2 i (by omega), e, V5]; exact p3
    · rw [Q2 i (by omega), e, V5']; exact r3
  · intro i hi
    show x_R σ 504 (ad' 5 i) = _
    rw [A2]
    rcases lt5 i hi with e | e | e
    · rw [U5 i e, Q1 i e]; exact hq4 i e
    · rw [Q2 i (by omega), e, V5]; exact p4
    · rw [Q2 i (by omega), e, V5']; exact r4
  · intro x hx i m hm
    show x_R σ 210 (ad' 2 m) = _
    rw [A2]
    by_cases e : x < 2 * cW T
    · rw [Q1 x e] at hm ⊢; exact hqn x e i m hm
    · rw [Q2 x e] at hm; cases hm
  · intro i hi
    show (if b + 2 = b + 3 ∧ i = cW T then some w else x_Q σ (b + 2) i) = _
    rw [if_neg (by omega), A1]; exact ha1 i hi
  · intro i hi
    show (if b + 3 = b + 3 ∧ i = cW T then some w else x_Q σ (b + 3) i) = _
    rcases lt7 i hi with e | e
    · rw [if_neg (by omega), U7 i e]; exact ha7 i e
    · rw [if_pos ⟨rfl, e⟩, e, V7]
  · intro i hi
    show (if b + 10 = b + 3 ∧ i = cW T then some w else x_Q σ (b + 10) i) = _
    rw [if_neg (by omega), A4]; exact ha4 i hi
  · intro i hi
    show (if b + 11 = b + 3 ∧ i = cW T then some w else x_Q σ (b + 11) i) = _
    rw [if_neg (by omega), A2]; exact ha2 i hi
theorem e_winit (F : Nat) (t : Int32) (r1 r2 : Option Nat) (σ : PH) : ∃ σ1, x_rn (mX7_init F (some (x_N σ)) r1 r2 t) (x_nO σ 7) = some ((), σ1) ∧ ((∀ a, x_K σ a ≠ 0 → a < x_N σ) → FR (x_N σ) σ σ1) ∧ x_N σ1 = x_N σ + 3 ∧ x_U σ1 = x_U σ + 15 ∧ x_Q σ1 = x_Q σ ∧ x_K σ1 (x_N σ) = 8 ∧ x_K σ1 (x_N σ + 1) = 6 ∧ x_K σ1 (x_N σ + 2) = 6 ∧ x_R σ1 700 (x_N σ) = some (x_N σ + 1) ∧ x_R σ1 701 (x_N σ) = some (x_N σ + 2) ∧ x_I σ1 702 (x_N σ) = t ∧ x_I σ1 703 (x_N σ) = 0 ∧ x_I σ1 704 (x_N σ) = 0 ∧ x_R σ1 500 (x_N σ + 1) = r1 ∧ x_R σ1 501 (x_N σ + 1) = r2 ∧ x_I σ1 502 (x_N σ + 1) = 0 ∧ x_R σ1 503 (x_N σ + 1) = none ∧ x_R σ1 504 (x_N σ + 1) = none ∧ x_R σ1 500 (x_N σ + 2) = r2 ∧ x_R σ1 501 (x_N σ + 2) = r1 ∧ x_I σ1 502 (x_N σ + 2) = 0 ∧ x_R σ1 503 (x_N σ + 2) = none ∧ x_R σ1 504 (x_N σ + 2) = none := by
  have kk : x_K (x_nO σ 7) (x_N σ) = 8 := by rw [K_nO, if_pos rfl]
  have ka : x_K (x_nO (x_nO σ 7) 5) (x_N σ + 1) = 6 := by rw [K_nO, N_nO, if_pos rfl]
  have kb : x_K (x_nO (x_nO σ 7) 5) (x_N σ) = 8 := by rw [K_nO, N_nO, if_neg (by omega)]; exact kk
  -- after the first queue
  obtain ⟨ρ, hρ⟩ : ∃ ρ, ρ = x_uR (x_uR (x_uR (x_nO (x_nO σ 7) 5) 500 (x_N σ + 1) r1) 501 (x_N σ + 1) r2) 700 (x_N σ) (some (x_N σ + 1)) := ⟨_, rfl⟩
  have ρN : x_N ρ = x_N σ + 2 := by rw [hρ, N_uR, N_uR, N_uR, N_nO, N_nO]
  have ρK : ∀ a, x_K ρ a = if a = x_N σ + 1 then 6 else if a = x_N σ then 8 else x_K σ a := fun a => by
    rw [hρ, K_uR, K_uR, K_uR, K_nO, K_nO, N_nO]
  have ρI : ∀ g a, x_N σ ≤ a → a < x_N σ + 2 → x_I ρ g a = 0 := fun g a h1 h2 => by
    rw [hρ, I_uR, I_uR, I_uR, I_nO, I_nO, N_nO]
    by_cases e : a = x_N σ + 1
    · rw [if_pos e]
    · rw [if_neg e, if_pos (by omega)]
  have ρR : ∀ g a, x_R ρ g a = if g = 700 ∧ a = x_N σ then some (x_N σ + 1) else if g = 501 ∧ a = x_N σ + 1 then r2 else if g = 500 ∧ a = x_N σ + 1 then r1 else if a = x_N σ + 1 then none else if a = x_N σ then none else x_R σ g a := fun g a => by
    rw [hρ, R_uR, R_uR, R_uR, R_nO, R_nO, N_nO]
  have kc : x_K (x_nO ρ 5) (x_N σ + 2) = 6 := by rw [K_nO, if_pos ρN.symm]
  have kd : x_K (x_nO ρ 5) (x_N σ) = 8 := by rw [K_nO, if_neg (by omega), ρK, if_neg (by omega), if_pos rfl]
  have Rn : ∀ g, x_R (x_nO ρ 5) g (x_N σ + 2) = none := fun g => by rw [R_nO, if_pos ρN.symm]
  have Ro : ∀ g a, a ≠ x_N σ + 2 → x_R (x_nO ρ 5) g a = x_R ρ g a := fun g a h => by rw [R_nO, if_neg (by rw [ρN]; exact h)]
  refine ⟨x_uI (x_uR (x_uR (x_uR (x_nO ρ 5) 500 (x_N σ + 2) r2) 501 (x_N σ + 2) r1) 701 (x_N σ) (some (x_N σ + 2))) 702 (x_N σ) t, ?_, fun hw => ?_, ?_, ?_, ?_, ?_, ?_, ?_, ?_, ?_, ?_, ?_, ?_, ?_, ?_, ?_, ?_, ?_, ?_, ?_, ?_, ?_, ?_⟩
  · unfold mX7_init
    have ei1 : x_rn (mX5_init F (some (x_N σ + 1)) r1 r2) (x_nO (x_nO σ 7) 5) = some ((), x_uR (x_uR (x_nO (x_nO σ 7) 5) 500 (x_N σ + 1) r1) 501 (x_N σ + 1) r2) := by
      unfold mX5_init
      refine q_wR ka ?_
      refine q_wR ka ?_
      exact q_e
    have ei2 : x_rn (mX5_init F (some (x_N σ + 2)) r2 r1) (x_nO ρ 5) = some ((), x_uR (x_uR (x_nO ρ 5) 500 (x_N σ + 2) r2) 501 (x_N σ + 2) r1) := by
      unfold mX5_init
      refine q_wR kc ?_
      refine q_wR kc ?_
      exact q_e
    refine q_mO ?_
    refine q_st ei1 ?_
    refine q_wR (ci := 7) kb ?_
    have e2 : x_uR (x_uR (x_uR (x_nO (x_nO σ 7) 5) 500 (x_N σ + 1) r1) 501 (x_N σ + 1) r2) (100 * 7 + 0) (x_N σ) (some (x_N (x_nO σ 7))) = ρ := hρ.symm
    rw [e2]
    refine q_mO ?_
    rw [ρN]
    refine q_st ei2 ?_
    refine q_wR kd ?_
    refine q_wI kd ?_
    exact q_e
  · have f1 := (((((FR.refl hw).nO 7).nO 5).uR (a := x_N σ + 1) (by omega) 500 r1).uR (a := x_N σ + 1) (by omega) 501 r2).uR (a := x_N σ) (Nat.le_refl _) 700 (some (x_N σ + 1))
    rw [← hρ] at f1
    exact ((((f1.nO 5).uR (a := x_N σ + 2) (by omega) 500 r2).uR (a := x_N σ + 2) (by omega) 501 r1).uR (a := x_N σ) (Nat.le_refl _) 701 (some (x_N σ + 2))).uI (a := x_N σ) (Nat.le_refl _) 702 t
  · rw [N_uI, N_uR, N_uR, N_uR, N_nO, ρN]
  · rw [U_uI, U_uR, U_uR, U_uR, U_nO, hρ, U_uR, U_uR, U_uR, U_nO, U_nO]; rfl
  · rw [Q_uI, Q_uR, Q_uR, Q_uR, Q_nO, hρ, Q_uR, Q_uR, Q_uR, Q_nO, Q_nO]
  · rw [K_uI, K_uR, K_uR, K_uR]; exact kd
  · rw [K_uI, K_uR, K_uR, K_uR, K_nO, if_neg (by omega), ρK, if_pos rfl]
  · rw [K_uI, K_uR, K_uR, K_uR]; exact kc
  · rw [R_uI, R_uR, if_neg (by omega), R_uR, if_neg (by omega), R_uR, if_neg (by omega), Ro _ _ (by omega), ρR, if_pos ⟨rfl, rfl⟩]
  · rw [R_uI, R_uR, if_pos ⟨rfl, rfl⟩]
  · rw [I_uI, if_pos ⟨rfl, rfl⟩]
  · rw [I_uI, if_neg (by omega), I_uR, I_uR, I_uR, I_nO, if_neg (by omega)]; exact ρI _ _ (by omega) (by omega)
  · rw [I_uI, if_neg (by omega), I_uR, I_uR, I_uR, I_nO, if_neg (by omega)]; exact ρI _ _ (by omega) (by omega)
  · rw [R_uI, R_uR, if_neg (by omega), R_uR, if_neg (by omega), R_uR, if_neg (by omega), Ro _ _ (by omega), ρR, if_neg (by omega), if_neg (by omega), if_pos ⟨rfl, rfl⟩]
  · rw [R_uI, R_uR, if_neg (by omega), R_uR, if_neg (by omega), R_uR, if_neg (by omega), Ro _ _ (by omega), ρR, if_neg (by omega), if_pos ⟨rfl, rfl⟩]
  · rw [I_uI, if_neg (by omega), I_uR, I_uR, I_uR, I_nO, if_neg (by omega)]; exact ρI _ _ (by omega) (by omega)
  · rw [R_uI, R_uR, if_neg (by omega), R_uR, if_neg (by omega), R_uR, if_neg (by omega), Ro _ _ (by omega), ρR, if_neg (by omega), if_neg (by omega), if_neg (by omega), if_pos rfl]
  · rw [R_uI, R_uR, if_neg (by omega), R_uR, if_neg (by omega), R_uR, if_neg (by omega), Ro _ _ (by omega), ρR, if_neg (by omega), if_neg (by omega), if_neg (by omega), if_pos rfl]
  · rw [R_uI, R_uR, if_neg (by omega), R_uR, if_neg (by omega), R_uR, if_pos ⟨rfl, rfl⟩]
  · rw [R_uI, R_uR, if_neg (by omega), R_uR, if_pos ⟨rfl, rfl⟩]
  · rw [I_uI, if_neg (by omega), I_uR, I_uR, I_uR, I_nO, if_pos ρN.symm]
  · rw [R_uI, R_uR, if_neg (by omega), R_uR, if_neg (by omega), R_uR, if_neg (by omega)]; exact Rn _
  · rw [R_uI, R_uR, if_neg (by omega), R_uR, if_neg (by omega), R_uR, if_neg (by omega)]; exact Rn _
end PN7
