/-- σ' agrees with σ below N -/
def FR (N : Nat) (σ σ' : PH) : Prop := (∀ a, a < N → x_K σ' a = x_K σ a ∧ (∀ f, x_I σ' f a = x_I σ f a) ∧ (∀ f, x_R σ' f a = x_R σ f a) ∧ (∀ i, x_A σ' a i = x_A σ a i) ∧ (∀ i, x_Q σ' a i = x_Q σ a i) ∧ x_L σ' a = x_L σ a) ∧ (∀ a, x_K σ' a ≠ 0 → a < x_N σ') ∧ N ≤ x_N σ'
theorem FR.refl {σ : PH} (h : ∀ a, x_K σ a ≠ 0 → a < x_N σ) : FR (x_N σ) σ σ := ⟨fun _ _ => ⟨rfl, fun _ => rfl, fun _ => rfl, fun _ => rfl, fun _ => rfl, rfl⟩, h, Nat.le_refl _⟩
theorem FR.nO {N : Nat} {σ σ' : PH} (h : FR N σ σ') (ci : Nat) : FR N σ (x_nO σ' ci) := by
  obtain ⟨h1, h2, h3⟩ := h
  refine ⟨fun a ha => ?_, fun a ha => ?_, ?_⟩
  · obtain ⟨g1, g2, g3, g4, g5, g6⟩ := h1 a ha
    have hn : ¬ a = x_N σ' := by omega
    refine ⟨?_, fun f => ?_, fun f => ?_, g4, g5, g6⟩
    · rw [K_nO, if_neg hn]; exact g1
    · rw [I_nO, if_neg hn]; exact g2 f
    · rw [R_nO, if_neg hn]; exact g3 f
  · rw [N_nO]
    rw [K_nO] at ha
    by_cases e : a = x_N σ'
    · omega
    · rw [if_neg e] at ha
      have := h2 a ha; omega
  · rw [N_nO]; omega
theorem FR.nA {N : Nat} {σ σ' : PH} (h : FR N σ σ') (kd n : Nat) : FR N σ (x_nA σ' kd n) := by
  obtain ⟨h1, h2, h3⟩ := h
  refine ⟨fun a ha => ?_, fun a ha => ?_, ?_⟩
  · obtain ⟨g1, g2, g3, g4, g5, g6⟩ := h1 a ha
    have hn : ¬ a = x_N σ' := by omega
    refine ⟨?_, g2, g3, fun i => ?_, fun i => ?_, ?_⟩
    · rw [K_nA, if_neg hn]; exact g1
    · rw [A_nA, if_neg hn]; exact g4 i
    · rw [Q_nA, if_neg hn]; exact g5 i
    · rw [L_nA, if_neg hn]; exact g6
  · rw [N_nA]
    rw [K_nA] at ha
    by_cases e : a = x_N σ'
    · omega
    · rw [if_neg e] at ha
      have := h2 a ha; omega
  · rw [N_nA]; omega
theorem FR.uI {N : Nat} {σ σ' : PH} (h : FR N σ σ') {a : Nat} (ha : N ≤ a) (f : Nat) (v : Int32) : FR N σ (x_uI σ' f a v) := by
  obtain ⟨h1, h2, h3⟩ := h
  refine ⟨fun x hx => ?_, h2, h3⟩
  obtain ⟨g1, g2, g3, g4, g5, g6⟩ := h1 x hx
  refine ⟨g1, fun g => ?_, g3, g4, g5, g6⟩
  rw [I_uI, if_neg (by omega)]; exact g2 g
theorem FR.uR {N : Nat} {σ σ' : PH} (h : FR N σ σ') {a : Nat} (ha : N ≤ a) (f : Nat) (v : Option Nat) : FR N σ (x_uR σ' f a v) := by
  obtain ⟨h1, h2, h3⟩ := h
  refine ⟨fun x hx => ?_, h2, h3⟩
  obtain ⟨g1, g2, g3, g4, g5, g6⟩ := h1 x hx
  refine ⟨g1, g2, fun g => ?_, g4, g5, g6⟩
  rw [R_uR, if_neg (by omega)]; exact g3 g
theorem FR.uA {N : Nat} {σ σ' : PH} (h : FR N σ σ') {a : Nat} (ha : N ≤ a) (i : Nat) (v : Int32) : FR N σ (x_uA σ' a i v) := by
  obtain ⟨h1, h2, h3⟩ := h
  refine ⟨fun x hx => ?_, h2, h3⟩
  obtain ⟨g1, g2, g3, g4, g5, g6⟩ := h1 x hx
  refine ⟨g1, g2, g3, fun j => ?_, g5, g6⟩
  rw [A_uA, if_neg (by omega)]; exact g4 j
theorem RM.fr {b : Nat} {T : Tb} {σ σ' : PH} (h : RM b T σ) (hN : b + 53 ≤ x_N σ) (f : FR (x_N σ) σ σ') : RM b T σ' := by
  obtain ⟨⟨h1, h2⟩, h3, h4⟩ := h
  obtain ⟨f1, -, -⟩ := f
  refine ⟨⟨(f1 _ (by omega)).1.trans h1, fun k hk => ?_⟩, fun k hk => ((f1 _ (by omega)).2.1 _).trans (h3 k hk), fun k hk i => ?_⟩
  · have := x_od_lt hk
    obtain ⟨g1, g2, g3⟩ := h2 k hk
    exact ⟨((f1 _ (by omega)).2.2.1 _).trans g1, (f1 _ (by omega)).1.trans g2, (f1 _ (by omega)).2.2.2.2.2.trans g3⟩
  · have := x_od_lt hk
    exact ((f1 _ (by omega)).2.2.2.1 _).trans (h4 k hk i)
theorem RX.fr {b : Nat} {ad : Ad} {T : Tb} {Q : Qs} {σ σ' : PH} (h : RX b ad T Q σ) (hQ : ∀ k, k < 2 * cW T → ∀ m, m ∈ Q k → m < cM T) (f : FR (x_N σ) σ σ') : RX b ad T Q σ' := by
  obtain ⟨hfK, hfL, hfR, hwf, hk1, hk2, hk4, hk5, hk7, hk6, hkd, hj1, hj2, hj4, hj5, hj7, hj6, hjd, hc0, hc1, hc2, hc3, hc4, hc5, hw0, hw2, hw3, hw4, hq0, hq2, hq3, hq4, hqn, hqz, ho0, ho1, ho3, ho4, ho5, ho6, ho7, ho8, ho9, ho10, ho11, ho12, hm0, hm1, hm2, hm3, hm4, hm5, hm6, hm7, hm8, hm9, hs0, hs2, hs3, hs1, hsd, hz804, hz805, hz806, hz808, hz809, hz810, hz300, hz301, hz2, ha1, ha7, ha4, ha2, hab, haf, hal⟩ := h
  obtain ⟨f1, fwf, -⟩ := f
  have eK : ∀ a, a < x_N σ → x_K σ' a = x_K σ a := fun a ha => (f1 a ha).1
  have eI : ∀ g a, a < x_N σ → x_I σ' g a = x_I σ g a := fun g a ha => (f1 a ha).2.1 g
  have eR : ∀ g a, a < x_N σ → x_R σ' g a = x_R σ g a := fun g a ha => (f1 a ha).2.2.1 g
  have eA : ∀ a i, a < x_N σ → x_A σ' a i = x_A σ a i := fun a i ha => (f1 a ha).2.2.2.1 i
  have eQ : ∀ a i, a < x_N σ → x_Q σ' a i = x_Q σ a i := fun a i ha => (f1 a ha).2.2.2.2.1 i
  have eL : ∀ a, a < x_N σ → x_L σ' a = x_L σ a := fun a ha => (f1 a ha).2.2.2.2.2
  have B : b + 11 < x_N σ := hwf _ (by rw [hfK.2.2.2.2.2.2.2.2.2.2.2]; decide)
  have A1 : ∀ i, i < cC T → ad 1 i < x_N σ := fun i hi => hwf _ (by rw [hk1 i hi]; decide)
  have A2 : ∀ i, i < cM T → ad 2 i < x_N σ := fun i hi => hwf _ (by rw [hk2 i hi]; decide)
  have A4 : ∀ i, i < cO T → ad 4 i < x_N σ := fun i hi => hwf _ (by rw [hk4 i hi]; decide)
  have A5 : ∀ i, i < 2 * cW T → ad 5 i < x_N σ := fun i hi => hwf _ (by rw [hk5 i hi]; decide)
  have A7 : ∀ i, i < cW T → ad 7 i < x_N σ := fun i hi => hwf _ (by rw [hk7 i hi]; decide)
  have A6 : ∀ i, i < cM T → T 31 i = 0 → ad 6 i < x_N σ := fun i hi hq => hwf _ (by rw [hk6 i hi hq]; decide)
  have A10 : ∀ i, i < cM T → T 31 i = 0 → ad 10 i < x_N σ := fun i hi hq => hwf _ (by rw [(hkd i hi hq).1]; decide)
  exact ⟨⟨(eK _ (by omega)).trans hfK.1, (eK _ (by omega)).trans hfK.2.1, (eK _ (by omega)).trans hfK.2.2.1, (eK _ (by omega)).trans hfK.2.2.2.1, (eK _ (by omega)).trans hfK.2.2.2.2.1, (eK _ (by omega)).trans hfK.2.2.2.2.2.1, (eK _ (by omega)).trans hfK.2.2.2.2.2.2.1, (eK _ (by omega)).trans hfK.2.2.2.2.2.2.2.1, (eK _ (by omega)).trans hfK.2.2.2.2.2.2.2.2.1, (eK _ (by omega)).trans hfK.2.2.2.2.2.2.2.2.2.1, (eK _ (by omega)).trans hfK.2.2.2.2.2.2.2.2.2.2.1, (eK _ (by omega)).trans hfK.2.2.2.2.2.2.2.2.2.2.2⟩, ⟨(eL _ (by omega)).trans hfL.1, (eL _ (by omega)).trans hfL.2.1, (eL _ (by omega)).trans hfL.2.2.1, (eL _ (by omega)).trans hfL.2.2.2.1, (eL _ (by omega)).trans hfL.2.2.2.2.1, (eL _ (by omega)).trans hfL.2.2.2.2.2.1, (eL _ (by omega)).trans hfL.2.2.2.2.2.2.1, (eL _ (by omega)).trans hfL.2.2.2.2.2.2.2.1, (eL _ (by omega)).trans hfL.2.2.2.2.2.2.2.2⟩, ⟨(eR _ _ (by omega)).trans hfR.1, (eR _ _ (by omega)).trans hfR.2.1, (eR _ _ (by omega)).trans hfR.2.2.1, (eR _ _ (by omega)).trans hfR.2.2.2.1, (eR _ _ (by omega)).trans hfR.2.2.2.2.1, (eR _ _ (by omega)).trans hfR.2.2.2.2.2.1, (eR _ _ (by omega)).trans hfR.2.2.2.2.2.2.1, (eR _ _ (by omega)).trans hfR.2.2.2.2.2.2.2.1, (eR _ _ (by omega)).trans hfR.2.2.2.2.2.2.2.2.1, (eR _ _ (by omega)).trans hfR.2.2.2.2.2.2.2.2.2.1, (eR _ _ (by omega)).trans hfR.2.2.2.2.2.2.2.2.2.2⟩, fwf, (fun i hi => (eK _ (A1 i hi)).trans (hk1 i hi)), (fun i hi => (eK _ (A2 i hi)).trans (hk2 i hi)), (fun i hi => (eK _ (A4 i hi)).trans (hk4 i hi)), (fun i hi => (eK _ (A5 i hi)).trans (hk5 i hi)), (fun i hi => (eK _ (A7 i hi)).trans (hk7 i hi)), (fun i hi hq => (eK _ (A6 i hi hq)).trans (hk6 i hi hq)), (fun i hi hq => ⟨(eK _ (A10 i hi hq)).trans (hkd i hi hq).1, (eL _ (A10 i hi hq)).trans (hkd i hi hq).2.1, (hkd i hi hq).2.2⟩), hj1, hj2, hj4, hj5, hj7, hj6, hjd, (fun i hi => (eI _ _ (A1 i hi)).trans (hc0 i hi)), (fun i hi => (eI _ _ (A1 i hi)).trans (hc1 i hi)), (fun i hi => (eI _ _ (A1 i hi)).trans (hc2 i hi)), (fun i hi => (eI _ _ (A1 i hi)).trans (hc3 i hi)), (fun i hi => (eI _ _ (A1 i hi)).trans (hc4 i hi)), (fun i hi => (eI _ _ (A1 i hi)).trans (hc5 i hi)), (fun i hi => ⟨(eR _ _ (A7 i hi)).trans (hw0 i hi).1, (eR _ _ (A7 i hi)).trans (hw0 i hi).2⟩), (fun i hi => (eI _ _ (A7 i hi)).trans (hw2 i hi)), (fun i hi => (eI _ _ (A7 i hi)).trans (hw3 i hi)), (fun i hi => (eI _ _ (A7 i hi)).trans (hw4 i hi)), (fun i hi => ⟨(eR _ _ (A5 i hi)).trans (hq0 i hi).1, (eR _ _ (A5 i hi)).trans (hq0 i hi).2⟩), (fun i hi => (eI _ _ (A5 i hi)).trans (hq2 i hi)), (fun i hi => (eR _ _ (A5 i hi)).trans (hq3 i hi)), (fun i hi => (eR _ _ (A5 i hi)).trans (hq4 i hi)), (fun k hk i m hm => (eR _ _ (A2 m (hQ k hk m (List.mem_of_getElem? hm)))).trans (hqn k hk i m hm)), (fun i hi hq => (eR _ _ (A2 i hi)).trans (hqz i hi hq)), (fun i hi => (eI _ _ (A4 i hi)).trans (ho0 i hi)), (fun i hi => ⟨(eR _ _ (A4 i hi)).trans (ho1 i hi).1, (eR _ _ (A4 i hi)).trans (ho1 i hi).2⟩), (fun i hi => (eI _ _ (A4 i hi)).trans (ho3 i hi)), (fun i hi => (eI _ _ (A4 i hi)).trans (ho4 i hi)), (fun i hi => (eI _ _ (A4 i hi)).trans (ho5 i hi)), (fun i hi => (eI _ _ (A4 i hi)).trans (ho6 i hi)), (fun i hi => (eI _ _ (A4 i hi)).trans (ho7 i hi)), (fun i hi => (eI _ _ (A4 i hi)).trans (ho8 i hi)), (fun i hi => (eI _ _ (A4 i hi)).trans (ho9 i hi)), (fun i hi => (eI _ _ (A4 i hi)).trans (ho10 i hi)), (fun i hi => (eI _ _ (A4 i hi)).trans (ho11 i hi)), (fun i hi => (eI _ _ (A4 i hi)).trans (ho12 i hi)), (fun i hi => (eI _ _ (A2 i hi)).trans (hm0 i hi)), (fun i hi => (eR _ _ (A2 i hi)).trans (hm1 i hi)), (fun i hi => (eR _ _ (A2 i hi)).trans (hm2 i hi)), (fun i hi => (eR _ _ (A2 i hi)).trans (hm3 i hi)), (fun i hi => (eR _ _ (A2 i hi)).trans (hm4 i hi)), (fun i hi => (eR _ _ (A2 i hi)).trans (hm5 i hi)), (fun i hi => (eR _ _ (A2 i hi)).trans (hm6 i hi)), (fun i hi hq => (eI _ _ (A2 i hi)).trans (hm7 i hi hq)), (fun i hi => (eI _ _ (A2 i hi)).trans (hm8 i hi)), (fun i hi => (eI _ _ (A2 i hi)).trans (hm9 i hi)), (fun i hi hq => (eI _ _ (A6 i hi hq)).trans (hs0 i hi hq)), (fun i hi hq => (eI _ _ (A6 i hi hq)).trans (hs2 i hi hq)), (fun i hi hq => (eI _ _ (A6 i hi hq)).trans (hs3 i hi hq)), (fun i hi hq => (eR _ _ (A6 i hi hq)).trans (hs1 i hi hq)), (fun i hi hq j hj => (eA _ _ (A10 i hi hq)).trans (hsd i hi hq j hj)), ((eI _ _ (by omega)).trans hz804), ((eI _ _ (by omega)).trans hz805), ((eI _ _ (by omega)).trans hz806), ((eI _ _ (by omega)).trans hz808), ((eI _ _ (by omega)).trans hz809), ((eI _ _ (by omega)).trans hz810), ((eI _ _ (by omega)).trans hz300), ((eI _ _ (by omega)).trans hz301), ((eI _ _ (by omega)).trans hz2), (fun i hi => (eQ _ _ (by omega)).trans (ha1 i hi)), (fun i hi => (eQ _ _ (by omega)).trans (ha7 i hi)), (fun i hi => (eQ _ _ (by omega)).trans (ha4 i hi)), (fun i hi => (eQ _ _ (by omega)).trans (ha2 i hi)), (fun i hi => (eA _ _ (by omega)).trans (hab i hi)), (fun i hi => (eA _ _ (by omega)).trans (haf i hi)), (fun i hi => (eA _ _ (by omega)).trans (hal i hi))⟩
