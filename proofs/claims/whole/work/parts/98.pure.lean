section PLaw
theorem q_sc {L : Nat} {xs : Nat → Int32} {α : Type} {f : Int32 → PM α} {σ : PH} {z : Option (α × PH)} {i : Int32} {j : Nat} (hi : i = nI j) (hj : j < L) (hL : L ≤ 2560) (g : x_rn (f (xs j)) σ = z) : x_rn (x_bd (x_sc L xs i) f) σ = z := by
  subst hi
  have e : x_rn (x_sc L xs (nI j)) σ = some (xs j, σ) := by
    unfold x_sc
    rw [if_pos (x_inI hj (by omega)), x_clj (by omega)]
    rfl
  exact q_st e g
theorem L_law {F L b : Nat} {xs : Nat → Int32} (hF : 40000000000 < F) (hL : L ≤ 2560) : ∀ (n i : Nat) (ad : Ad) (T : Tb) (Q : Qs) (σ : PH), i ≤ L → L - i < n → INV b ad T Q σ → ∃ (τ : PH) (ad' : Ad) (T' : Tb) (Q' : Qs), x_rn (mL_law_18 F L xs n (some b) (some (b + 12)) (nI i)) σ = some (1, τ) ∧ INV b ad' T' Q' τ := by
  intro n
  induction n with
  | zero => intro i ad T Q σ _ h; omega
  | succ n ih =>
    intro i ad T Q σ hi hn h
    have kb : x_K σ b = 9 := h.1.fK.1
    by_cases c : i + 5 ≤ L
    case neg =>
      refine ⟨σ, ad, T, Q, ?_, h⟩
      rw [mL_law_18]
      refine q_t ?_ q_e
      by_cases c5 : 5 ≤ L
      · have e : Int32.ofNat L - (5 : Int32) = nI (L - 5) := pk_sub (a := L) (b := 5) c5
        rw [e]
        exact nI_lt (by omega) (by omega)
      · have e : (Int32.ofNat L - (5 : Int32)) < 0 := pk_sneg (a := L) (b := 5) (by decide) (by omega)
        rw [i_lt] at e ⊢
        rw [i_nI (by omega)]
        have e' : (Int32.ofNat L - (5 : Int32)).toInt < 0 := e
        omega
    have nexit : ¬ (Int32.ofNat L - (5 : Int32)) < nI i := by
      have e : Int32.ofNat L - (5 : Int32) = nI (L - 5) := pk_sub (a := L) (b := 5) (by omega)
      rw [e]
      exact nI_nlt (by omega) (by omega)
    have e1 : nI i + (1 : Int32) = nI (i + 1) := nI_add i 1
    have e2 : nI i + (2 : Int32) = nI (i + 2) := nI_add i 2
    have e3 : nI i + (3 : Int32) = nI (i + 3) := nI_add i 3
    have e4 : nI i + (4 : Int32) = nI (i + 4) := nI_add i 4
    have e5 : nI i + (5 : Int32) = nI (i + 5) := nI_add i 5
    by_cases n0 : xs i &&& (31 : Int32) = 0
    · obtain ⟨r, σ1, σ2, ad', T', Q', g1, g2, g3, g4⟩ := p_counter h F (xs (i + 1)) (xs (i + 2)) (xs (i + 3))
      obtain ⟨τ, ad2, T2, Q2, w1, w2⟩ := ih (i + 5) ad' T' Q' σ2 (by omega) (by omega) g4
      refine ⟨τ, ad2, T2, Q2, ?_, w2⟩
      rw [mL_law_18]
      refine q_f nexit ?_
      refine q_sc rfl (by omega) hL ?_
      refine q_t n0 ?_
      refine q_sc e1 (by omega) hL ?_
      refine q_sc e2 (by omega) hL ?_
      refine q_sc e3 (by omega) hL ?_
      refine q_cl kb g1 ?_
      refine q_sc e1 (by omega) hL ?_
      refine q_sc e2 (by omega) hL ?_
      refine q_sc e3 (by omega) hL ?_
      refine q_cl g2 g3 ?_
      refine q_t rfl ?_
      refine q_p ?_
      rw [e5]
      exact w1
    by_cases n1 : xs i &&& (31 : Int32) = 1
    · obtain ⟨r, σ1, σ2, ad', T', Q', g1, g2, g3, g4⟩ := p_wire h hF (xs (i + 1)) (xs (i + 2)) (xs (i + 3))
      obtain ⟨τ, ad2, T2, Q2, w1, w2⟩ := ih (i + 5) ad' T' Q' σ2 (by omega) (by omega) g4
      refine ⟨τ, ad2, T2, Q2, ?_, w2⟩
      rw [mL_law_18]
      refine q_f nexit ?_
      refine q_sc rfl (by omega) hL ?_
      refine q_f n0 ?_
      refine q_t n1 ?_
      refine q_sc e1 (by omega) hL ?_
      refine q_sc e2 (by omega) hL ?_
      refine q_sc e3 (by omega) hL ?_
      refine q_cl kb g1 ?_
      refine q_sc e1 (by omega) hL ?_
      refine q_sc e2 (by omega) hL ?_
      refine q_sc e3 (by omega) hL ?_
      refine q_cl g2 g3 ?_
      refine q_t rfl ?_
      refine q_p ?_
      rw [e5]
      exact w1
    by_cases n2 : xs i &&& (31 : Int32) = 2
    · obtain ⟨r, σ1, σ2, ad', T', Q', g1, g2, g3, g4⟩ := p_down h F (xs (i + 1)) (xs (i + 2)) (xs (i + 3))
      obtain ⟨τ, ad2, T2, Q2, w1, w2⟩ := ih (i + 5) ad' T' Q' σ2 (by omega) (by omega) g4
      refine ⟨τ, ad2, T2, Q2, ?_, w2⟩
      rw [mL_law_18]
      refine q_f nexit ?_
      refine q_sc rfl (by omega) hL ?_
      refine q_f n0 ?_
      refine q_f n1 ?_
      refine q_t n2 ?_
      refine q_sc e1 (by omega) hL ?_
      refine q_sc e2 (by omega) hL ?_
      refine q_sc e3 (by omega) hL ?_
      refine q_cl kb g1 ?_
      refine q_sc e1 (by omega) hL ?_
      refine q_sc e2 (by omega) hL ?_
      refine q_sc e3 (by omega) hL ?_
      refine q_cl g2 g3 ?_
      refine q_t rfl ?_
      refine q_p ?_
      rw [e5]
      exact w1
    by_cases n3 : xs i &&& (31 : Int32) = 3
    · obtain ⟨r, σ1, σ2, ad', T', Q', g1, g2, g3, g4⟩ := p_least h F (xs (i + 1)) (xs (i + 2))
      obtain ⟨τ, ad2, T2, Q2, w1, w2⟩ := ih (i + 5) ad' T' Q' σ2 (by omega) (by omega) g4
      refine ⟨τ, ad2, T2, Q2, ?_, w2⟩
      rw [mL_law_18]
      refine q_f nexit ?_
      refine q_sc rfl (by omega) hL ?_
      refine q_f n0 ?_
      refine q_f n1 ?_
      refine q_f n2 ?_
      refine q_t n3 ?_
      refine q_sc e1 (by omega) hL ?_
      refine q_sc e2 (by omega) hL ?_
      refine q_cl kb g1 ?_
      refine q_sc e1 (by omega) hL ?_
      refine q_sc e2 (by omega) hL ?_
      refine q_cl g2 g3 ?_
      refine q_t rfl ?_
      refine q_p ?_
      rw [e5]
      exact w1
    by_cases n4 : xs i &&& (31 : Int32) = 4
    · obtain ⟨r, σ1, σ2, ad', T', Q', g1, g2, g3, g4⟩ := p_band h F (xs (i + 1)) (xs (i + 2))
      obtain ⟨τ, ad2, T2, Q2, w1, w2⟩ := ih (i + 5) ad' T' Q' σ2 (by omega) (by omega) g4
      refine ⟨τ, ad2, T2, Q2, ?_, w2⟩
      rw [mL_law_18]
      refine q_f nexit ?_
      refine q_sc rfl (by omega) hL ?_
      refine q_f n0 ?_
      refine q_f n1 ?_
      refine q_f n2 ?_
      refine q_f n3 ?_
      refine q_t n4 ?_
      refine q_sc e1 (by omega) hL ?_
      refine q_sc e2 (by omega) hL ?_
      refine q_cl kb g1 ?_
      refine q_sc e1 (by omega) hL ?_
      refine q_sc e2 (by omega) hL ?_
      refine q_cl g2 g3 ?_
      refine q_t rfl ?_
      refine q_p ?_
      rw [e5]
      exact w1
    by_cases n5 : xs i &&& (31 : Int32) = 5
    · obtain ⟨r, σ1, σ2, ad', T', Q', g1, g2, g3, g4⟩ := p_fee h (F := F) (by omega) (xs (i + 1))
      obtain ⟨τ, ad2, T2, Q2, w1, w2⟩ := ih (i + 5) ad' T' Q' σ2 (by omega) (by omega) g4
      refine ⟨τ, ad2, T2, Q2, ?_, w2⟩
      rw [mL_law_18]
      refine q_f nexit ?_
      refine q_sc rfl (by omega) hL ?_
      refine q_f n0 ?_
      refine q_f n1 ?_
      refine q_f n2 ?_
      refine q_f n3 ?_
      refine q_f n4 ?_
      refine q_t n5 ?_
      refine q_sc e1 (by omega) hL ?_
      refine q_cl kb g1 ?_
      refine q_sc e1 (by omega) hL ?_
      refine q_cl g2 g3 ?_
      refine q_t rfl ?_
      refine q_p ?_
      rw [e5]
      exact w1
    by_cases n6 : xs i &&& (31 : Int32) = 6
    · obtain ⟨r, σ1, σ2, ad', T', Q', g1, g2, g3, g4⟩ := p_order h (F := F) (by omega) (xs (i + 1)) (xs (i + 2)) (xs (i + 3)) (xs (i + 4))
      obtain ⟨τ, ad2, T2, Q2, w1, w2⟩ := ih (i + 5) ad' T' Q' σ2 (by omega) (by omega) g4
      refine ⟨τ, ad2, T2, Q2, ?_, w2⟩
      rw [mL_law_18]
      refine q_f nexit ?_
      refine q_sc rfl (by omega) hL ?_
      refine q_f n0 ?_
      refine q_f n1 ?_
      refine q_f n2 ?_
      refine q_f n3 ?_
      refine q_f n4 ?_
      refine q_f n5 ?_
      refine q_t n6 ?_
      refine q_sc e1 (by omega) hL ?_
      refine q_sc e2 (by omega) hL ?_
      refine q_sc e3 (by omega) hL ?_
      refine q_sc e4 (by omega) hL ?_
      refine q_cl kb g1 ?_
      refine q_sc e1 (by omega) hL ?_
      refine q_sc e2 (by omega) hL ?_
      refine q_sc e3 (by omega) hL ?_
      refine q_sc e4 (by omega) hL ?_
      refine q_cl g2 g3 ?_
      refine q_t rfl ?_
      refine q_p ?_
      rw [e5]
      exact w1
    by_cases n7 : xs i &&& (31 : Int32) = 7
    · obtain ⟨r, σ1, σ2, ad', T', Q', g1, g2, g3, g4⟩ := p_stop h (F := F) (by omega) (xs (i + 1))
      obtain ⟨τ, ad2, T2, Q2, w1, w2⟩ := ih (i + 5) ad' T' Q' σ2 (by omega) (by omega) g4
      refine ⟨τ, ad2, T2, Q2, ?_, w2⟩
      rw [mL_law_18]
      refine q_f nexit ?_
      refine q_sc rfl (by omega) hL ?_
      refine q_f n0 ?_
      refine q_f n1 ?_
      refine q_f n2 ?_
      refine q_f n3 ?_
      refine q_f n4 ?_
      refine q_f n5 ?_
      refine q_f n6 ?_
      refine q_t n7 ?_
      refine q_sc e1 (by omega) hL ?_
      refine q_cl kb g1 ?_
      refine q_sc e1 (by omega) hL ?_
      refine q_cl g2 g3 ?_
      refine q_t rfl ?_
      refine q_p ?_
      rw [e5]
      exact w1
    by_cases n8 : xs i &&& (31 : Int32) = 8
    · obtain ⟨r, σ1, σ2, ad', T', Q', g1, g2, g3, g4⟩ := p_pay h F (xs (i + 1)) (xs (i + 2))
      obtain ⟨τ, ad2, T2, Q2, w1, w2⟩ := ih (i + 5) ad' T' Q' σ2 (by omega) (by omega) g4
      refine ⟨τ, ad2, T2, Q2, ?_, w2⟩
      rw [mL_law_18]
      refine q_f nexit ?_
      refine q_sc rfl (by omega) hL ?_
      refine q_f n0 ?_
      refine q_f n1 ?_
      refine q_f n2 ?_
      refine q_f n3 ?_
      refine q_f n4 ?_
      refine q_f n5 ?_
      refine q_f n6 ?_
      refine q_f n7 ?_
      refine q_t n8 ?_
      refine q_sc e1 (by omega) hL ?_
      refine q_sc e2 (by omega) hL ?_
      refine q_cl kb g1 ?_
      refine q_sc e1 (by omega) hL ?_
      refine q_sc e2 (by omega) hL ?_
      refine q_cl g2 g3 ?_
      refine q_t rfl ?_
      refine q_p ?_
      rw [e5]
      exact w1
    by_cases n9 : xs i &&& (31 : Int32) = 9
    · obtain ⟨r, σ1, σ2, ad', T', Q', g1, g2, g3, g4⟩ := p_cart h F (xs (i + 1)) (xs (i + 2)) (xs (i + 3))
      obtain ⟨τ, ad2, T2, Q2, w1, w2⟩ := ih (i + 5) ad' T' Q' σ2 (by omega) (by omega) g4
      refine ⟨τ, ad2, T2, Q2, ?_, w2⟩
      rw [mL_law_18]
      refine q_f nexit ?_
      refine q_sc rfl (by omega) hL ?_
      refine q_f n0 ?_
      refine q_f n1 ?_
      refine q_f n2 ?_
      refine q_f n3 ?_
      refine q_f n4 ?_
      refine q_f n5 ?_
      refine q_f n6 ?_
      refine q_f n7 ?_
      refine q_f n8 ?_
      refine q_t n9 ?_
      refine q_sc e1 (by omega) hL ?_
      refine q_sc e2 (by omega) hL ?_
      refine q_sc e3 (by omega) hL ?_
      refine q_cl kb g1 ?_
      refine q_sc e1 (by omega) hL ?_
      refine q_sc e2 (by omega) hL ?_
      refine q_sc e3 (by omega) hL ?_
      refine q_cl g2 g3 ?_
      refine q_t rfl ?_
      refine q_p ?_
      rw [e5]
      exact w1
    by_cases n10 : xs i &&& (31 : Int32) = 10
    · obtain ⟨r, σ1, σ2, ad', T', Q', g1, g2, g3, g4⟩ := p_garble h F (xs (i + 1)) (xs (i + 2)) (xs (i + 3))
      obtain ⟨τ, ad2, T2, Q2, w1, w2⟩ := ih (i + 5) ad' T' Q' σ2 (by omega) (by omega) g4
      refine ⟨τ, ad2, T2, Q2, ?_, w2⟩
      rw [mL_law_18]
      refine q_f nexit ?_
      refine q_sc rfl (by omega) hL ?_
      refine q_f n0 ?_
      refine q_f n1 ?_
      refine q_f n2 ?_
      refine q_f n3 ?_
      refine q_f n4 ?_
      refine q_f n5 ?_
      refine q_f n6 ?_
      refine q_f n7 ?_
      refine q_f n8 ?_
      refine q_f n9 ?_
      refine q_t n10 ?_
      refine q_sc e1 (by omega) hL ?_
      refine q_sc e2 (by omega) hL ?_
      refine q_sc e3 (by omega) hL ?_
      refine q_cl kb g1 ?_
      refine q_sc e1 (by omega) hL ?_
      refine q_sc e2 (by omega) hL ?_
      refine q_sc e3 (by omega) hL ?_
      refine q_cl g2 g3 ?_
      refine q_t rfl ?_
      refine q_p ?_
      rw [e5]
      exact w1
    by_cases n11 : xs i &&& (31 : Int32) = 11
    · obtain ⟨r, σ1, σ2, ad', T', Q', g1, g2, g3, g4⟩ := p_go h (F := F) (by omega) (xs (i + 1))
      obtain ⟨τ, ad2, T2, Q2, w1, w2⟩ := ih (i + 5) ad' T' Q' σ2 (by omega) (by omega) g4
      refine ⟨τ, ad2, T2, Q2, ?_, w2⟩
      rw [mL_law_18]
      refine q_f nexit ?_
      refine q_sc rfl (by omega) hL ?_
      refine q_f n0 ?_
      refine q_f n1 ?_
      refine q_f n2 ?_
      refine q_f n3 ?_
      refine q_f n4 ?_
      refine q_f n5 ?_
      refine q_f n6 ?_
      refine q_f n7 ?_
      refine q_f n8 ?_
      refine q_f n9 ?_
      refine q_f n10 ?_
      refine q_t n11 ?_
      refine q_sc e1 (by omega) hL ?_
      refine q_cl kb g1 ?_
      refine q_sc e1 (by omega) hL ?_
      refine q_cl g2 g3 ?_
      refine q_t rfl ?_
      refine q_p ?_
      rw [e5]
      exact w1
    by_cases n12 : xs i &&& (31 : Int32) = 12
    · obtain ⟨r, σ1, σ2, ad', T', Q', g1, g2, g3, g4⟩ := p_sign h F (xs (i + 1)) (xs (i + 2))
      obtain ⟨τ, ad2, T2, Q2, w1, w2⟩ := ih (i + 5) ad' T' Q' σ2 (by omega) (by omega) g4
      refine ⟨τ, ad2, T2, Q2, ?_, w2⟩
      rw [mL_law_18]
      refine q_f nexit ?_
      refine q_sc rfl (by omega) hL ?_
      refine q_f n0 ?_
      refine q_f n1 ?_
      refine q_f n2 ?_
      refine q_f n3 ?_
      refine q_f n4 ?_
      refine q_f n5 ?_
      refine q_f n6 ?_
      refine q_f n7 ?_
      refine q_f n8 ?_
      refine q_f n9 ?_
      refine q_f n10 ?_
      refine q_f n11 ?_
      refine q_t n12 ?_
      refine q_sc e1 (by omega) hL ?_
      refine q_sc e2 (by omega) hL ?_
      refine q_cl kb g1 ?_
      refine q_sc e1 (by omega) hL ?_
      refine q_sc e2 (by omega) hL ?_
      refine q_cl g2 g3 ?_
      refine q_t rfl ?_
      refine q_p ?_
      rw [e5]
      exact w1
    by_cases n13 : xs i &&& (31 : Int32) = 13
    · obtain ⟨r, σ1, σ2, ad', T', Q', g1, g2, g3, g4⟩ := p_message h F (xs (i + 1)) (xs (i + 2))
      obtain ⟨τ, ad2, T2, Q2, w1, w2⟩ := ih (i + 5) ad' T' Q' σ2 (by omega) (by omega) g4
      refine ⟨τ, ad2, T2, Q2, ?_, w2⟩
      rw [mL_law_18]
      refine q_f nexit ?_
      refine q_sc rfl (by omega) hL ?_
      refine q_f n0 ?_
      refine q_f n1 ?_
      refine q_f n2 ?_
      refine q_f n3 ?_
      refine q_f n4 ?_
      refine q_f n5 ?_
      refine q_f n6 ?_
      refine q_f n7 ?_
      refine q_f n8 ?_
      refine q_f n9 ?_
      refine q_f n10 ?_
      refine q_f n11 ?_
      refine q_f n12 ?_
      refine q_t n13 ?_
      refine q_sc e1 (by omega) hL ?_
      refine q_sc e2 (by omega) hL ?_
      refine q_cl kb g1 ?_
      refine q_sc e1 (by omega) hL ?_
      refine q_sc e2 (by omega) hL ?_
      refine q_cl g2 g3 ?_
      refine q_t rfl ?_
      refine q_p ?_
      rw [e5]
      exact w1
    by_cases n14 : xs i &&& (31 : Int32) = 14
    · obtain ⟨r, σ1, σ2, ad', T', Q', g1, g2, g3, g4⟩ := p_told h F (xs (i + 1)) (xs (i + 2))
      obtain ⟨τ, ad2, T2, Q2, w1, w2⟩ := ih (i + 5) ad' T' Q' σ2 (by omega) (by omega) g4
      refine ⟨τ, ad2, T2, Q2, ?_, w2⟩
      rw [mL_law_18]
      refine q_f nexit ?_
      refine q_sc rfl (by omega) hL ?_
      refine q_f n0 ?_
      refine q_f n1 ?_
      refine q_f n2 ?_
      refine q_f n3 ?_
      refine q_f n4 ?_
      refine q_f n5 ?_
      refine q_f n6 ?_
      refine q_f n7 ?_
      refine q_f n8 ?_
      refine q_f n9 ?_
      refine q_f n10 ?_
      refine q_f n11 ?_
      refine q_f n12 ?_
      refine q_f n13 ?_
      refine q_t n14 ?_
      refine q_sc e1 (by omega) hL ?_
      refine q_sc e2 (by omega) hL ?_
      refine q_cl kb g1 ?_
      refine q_sc e1 (by omega) hL ?_
      refine q_sc e2 (by omega) hL ?_
      refine q_cl g2 g3 ?_
      refine q_t rfl ?_
      refine q_p ?_
      rw [e5]
      exact w1
    by_cases n15 : xs i &&& (31 : Int32) = 15
    · obtain ⟨r, σ1, σ2, ad', T', Q', g1, g2, g3, g4⟩ := p_at h (F := F) (by omega) (xs (i + 1)) (xs (i + 2))
      obtain ⟨τ, ad2, T2, Q2, w1, w2⟩ := ih (i + 5) ad' T' Q' σ2 (by omega) (by omega) g4
      refine ⟨τ, ad2, T2, Q2, ?_, w2⟩
      rw [mL_law_18]
      refine q_f nexit ?_
      refine q_sc rfl (by omega) hL ?_
      refine q_f n0 ?_
      refine q_f n1 ?_
      refine q_f n2 ?_
      refine q_f n3 ?_
      refine q_f n4 ?_
      refine q_f n5 ?_
      refine q_f n6 ?_
      refine q_f n7 ?_
      refine q_f n8 ?_
      refine q_f n9 ?_
      refine q_f n10 ?_
      refine q_f n11 ?_
      refine q_f n12 ?_
      refine q_f n13 ?_
      refine q_f n14 ?_
      refine q_t n15 ?_
      refine q_sc e1 (by omega) hL ?_
      refine q_sc e2 (by omega) hL ?_
      refine q_cl kb g1 ?_
      refine q_sc e1 (by omega) hL ?_
      refine q_sc e2 (by omega) hL ?_
      refine q_cl g2 g3 ?_
      refine q_t rfl ?_
      refine q_p ?_
      rw [e5]
      exact w1
    by_cases n16 : xs i &&& (31 : Int32) = 16
    · obtain ⟨r, σ1, σ2, ad', T', Q', g1, g2, g3, g4⟩ := p_count h F (xs (i + 1))
      obtain ⟨τ, ad2, T2, Q2, w1, w2⟩ := ih (i + 5) ad' T' Q' σ2 (by omega) (by omega) g4
      refine ⟨τ, ad2, T2, Q2, ?_, w2⟩
      rw [mL_law_18]
      refine q_f nexit ?_
      refine q_sc rfl (by omega) hL ?_
      refine q_f n0 ?_
      refine q_f n1 ?_
      refine q_f n2 ?_
      refine q_f n3 ?_
      refine q_f n4 ?_
      refine q_f n5 ?_
      refine q_f n6 ?_
      refine q_f n7 ?_
      refine q_f n8 ?_
      refine q_f n9 ?_
      refine q_f n10 ?_
      refine q_f n11 ?_
      refine q_f n12 ?_
      refine q_f n13 ?_
      refine q_f n14 ?_
      refine q_f n15 ?_
      refine q_t n16 ?_
      refine q_sc e1 (by omega) hL ?_
      refine q_cl kb g1 ?_
      refine q_sc e1 (by omega) hL ?_
      refine q_cl g2 g3 ?_
      refine q_t rfl ?_
      refine q_p ?_
      rw [e5]
      exact w1
    obtain ⟨τ, ad2, T2, Q2, w1, w2⟩ := ih (i + 5) ad T Q σ (by omega) (by omega) h
    refine ⟨τ, ad2, T2, Q2, ?_, w2⟩
    rw [mL_law_18]
    refine q_f nexit ?_
    refine q_sc rfl (by omega) hL ?_
    refine q_f n0 ?_
    refine q_f n1 ?_
    refine q_f n2 ?_
    refine q_f n3 ?_
    refine q_f n4 ?_
    refine q_f n5 ?_
    refine q_f n6 ?_
    refine q_f n7 ?_
    refine q_f n8 ?_
    refine q_f n9 ?_
    refine q_f n10 ?_
    refine q_f n11 ?_
    refine q_f n12 ?_
    refine q_f n13 ?_
    refine q_f n14 ?_
    refine q_f n15 ?_
    refine q_f n16 ?_
    refine q_p ?_
    rw [e5]
    exact w1
theorem pure_main : ∀ (base L : Nat) (xs : Nat → Int32), L ≤ 2560 → ∃ (F : Nat) (τ : PH), x_rn (mL_law F L xs) (x_s0 base) = some (1, τ) ∧ x_N τ - x_N (x_s0 base) ≤ 600000 ∧ x_U τ - x_U (x_s0 base) ≤ 7302249 := by
  intro b L xs hL
  obtain ⟨F, hF⟩ : ∃ F : Nat, 40000000000 < F := ⟨40000000001, Nat.lt_succ_self _⟩
  obtain ⟨σ, e, h⟩ := e_start (F := F) hF b (kf := fun v0 v8 => mL_law_18 F L xs F v0 v8 (0 : Int32))
  obtain ⟨τ, ad, T, Q, g1, g2⟩ := L_law (b := b) (xs := xs) hF hL F 0 _ _ _ _ (by omega) (by omega) h
  refine ⟨F, τ, ?_, ?_, ?_⟩
  · unfold mL_law
    exact e.trans g1
  · obtain ⟨-, -, hJ, -, -, -, R1, R2, R3⟩ := g2
    have h1 := hJ.nC
    have h2 := hJ.nW
    have h3 := hJ.nO
    have h4 := hJ.nM
    have e0 : x_N (x_s0 b) = b := rfl
    omega
  · obtain ⟨-, -, hJ, -, -, -, R1, R2, R3⟩ := g2
    have h1 := hJ.nC
    have h2 := hJ.nW
    have h3 := hJ.nO
    have h4 := hJ.nM
    omega
end PLaw
