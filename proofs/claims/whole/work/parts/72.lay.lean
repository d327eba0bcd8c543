section PLy
variable {b : Nat} {ad : Ad} {T T2 U : Tb} {Q : Qs} {σ : PH} {s k : Nat}
def ns (U : Tb) (n : Nat) (o : Option Nat) : Option Nat := match o with
  | none => some n
  | some v => if ix (U 10 n) < ix (U 10 v) then some n else some v
theorem e_cell (F i j : Nat) (σ : PH) : x_rn (mX3_cell F (nI i) (nI j)) σ = some (nI (10 * i + j), σ) := by
  have e : nI i * (10 : Int32) + nI j = nI (10 * i + j) := by
    rw [show (10 : Int32) = nI 10 from rfl, pk_mul, nI_add, Nat.mul_comm]
  unfold mX3_cell
  rw [e]
  exact q_e
theorem e_isCell (F : Nat) {x : Nat} (hx : x < 100) (σ : PH) : x_rn (mX3_isCell F (nI x)) σ = some (1, σ) := by
  unfold mX3_isCell
  refine q_f (nI_pos (by omega)) ?_
  refine q_f (nI_ge (b := 100) hx (by decide)) ?_
  exact q_e
/-- what else stays -/
def SQ (b : Nat) (σ σ' : PH) : Prop := x_N σ' = x_N σ ∧ x_U σ' = x_U σ ∧ x_I σ' = x_I σ ∧ x_K σ' = x_K σ ∧ ∀ T2, RM b T2 σ → RM b T2 σ'
theorem SQ.refl (b : Nat) (σ : PH) : SQ b σ σ := ⟨rfl, rfl, rfl, rfl, fun _ h => h⟩
theorem SQ.tr {b : Nat} {σ σ' σ'' : PH} (h : SQ b σ σ') (g : SQ b σ' σ'') : SQ b σ σ'' := by
  obtain ⟨h1, h2, h3, h4, h5⟩ := h
  obtain ⟨g1, g2, g3, g4, g5⟩ := g
  exact ⟨g1.trans h1, g2.trans h2, g3.trans h3, g4.trans h4, fun T2 q => g5 T2 (h5 T2 q)⟩
theorem e_note (h : RX b ad U Q σ) (hN : NT U) (F : Nat) {i j n : Nat} (hi : i < 10) (hj : j < 10) (hn : n < cW U) {o : Option Nat} (ho : ∀ v, o = some v → v < cW U) (hq : x_Q σ (b + 5) (10 * i + j) = o.map (ad 7)) : ∃ σ', x_rn (mX3_noteStraight F (some (b + 1)) (nI (10 * i + j)) (some (ad 7 n))) σ = some ((), σ') ∧ RX b ad U Q σ' ∧ SQ b σ σ' ∧ ∀ c x, x_Q σ' c x = if c = b + 5 ∧ x = 10 * i + j then (ns U n o).map (ad 7) else x_Q σ c x := by
  have k2 := h.fK.2.1
  have k6 := h.fK.2.2.2.2.2.1
  have l6 := h.fL.2.2.2.1
  have r8 := h.fR.2.2.2.2.2.2.2.1
  have hx : 10 * i + j < 100 := by omega
  have kn := h.k7 _ hn
  have u := h.uQ5 (b + 5) (10 * i + j) (Or.inl rfl) (some (ad 7 n))
  have sq : SQ b σ (x_uQ σ (b + 5) (10 * i + j) (some (ad 7 n))) := ⟨rfl, rfl, rfl, rfl, fun _ q => q⟩
  have fit : x_fit σ (some (ad 7 n)) 7 = true := by
    show (x_K σ (ad 7 n) == 7 + 1) = true
    rw [kn]; rfl
  cases o with
  | none =>
    refine ⟨_, ?_, u, sq, fun c x => rfl⟩
    unfold mX3_noteStraight
    refine q_st (e_isCell F hx σ) ?_
    refine q_f (by decide) ?_
    refine q_rR k2 r8 ?_
    refine q_aQ rfl k6 l6 hx (by decide) hq ?_
    refine q_t rfl ?_
    refine q_rR k2 r8 ?_
    refine q_sQ rfl k6 l6 hx (by decide) fit ?_
    exact q_e
  | some v =>
    have hv := ho v rfl
    have kv := h.k7 _ hv
    have n10 := (hN.2.2.1 n hn).2.2.2.1
    have v10 := (hN.2.2.1 v hv).2.2.2.1
    have le : (U 10 v ≤ U 10 n) ↔ ¬ ix (U 10 n) < ix (U 10 v) := by
      rw [i_le, n10.ti (by omega), v10.ti (by omega)]; omega
    by_cases c : ix (U 10 n) < ix (U 10 v)
    · refine ⟨_, ?_, u, sq, fun d x => ?_⟩
      · unfold mX3_noteStraight
        refine q_st (e_isCell F hx σ) ?_
        refine q_f (by decide) ?_
        refine q_rR k2 r8 ?_
        refine q_aQ rfl k6 l6 hx (by decide) hq ?_
        refine q_f n_some ?_
        refine q_rI kn (h.w2 _ hn) ?_
        refine q_rI kv (h.w2 _ hv) ?_
        refine q_f (fun q => le.mp q c) ?_
        refine q_rR k2 r8 ?_
        refine q_sQ rfl k6 l6 hx (by decide) fit ?_
        exact q_e
      · rw [show ns U n (some v) = some n from if_pos c]
        rfl
    · refine ⟨σ, ?_, h, SQ.refl b σ, fun d x => ?_⟩
      · unfold mX3_noteStraight
        refine q_st (e_isCell F hx σ) ?_
        refine q_f (by decide) ?_
        refine q_rR k2 r8 ?_
        refine q_aQ rfl k6 l6 hx (by decide) hq ?_
        refine q_f n_some ?_
        refine q_rI kn (h.w2 _ hn) ?_
        refine q_rI kv (h.w2 _ hv) ?_
        refine q_t (le.mpr c) ?_
        exact q_e
      · rw [show ns U n (some v) = some v from if_neg c]
        by_cases q : d = b + 5 ∧ x = 10 * i + j
        · rw [if_pos q, q.1, q.2]; exact hq
        · rw [if_neg q]
theorem e_ffL (h : RX b ad U Q σ) (hN : NT U) (hS : ∀ i j, i < 10 → j < 10 → x_Q σ (b + 5) (10 * i + j) = (stf U i j (cW U)).map (ad 7)) (F : Nat) {i j : Nat} (hi : i < 10) (hj : j < 10) : ∀ (d n : Nat), d ≤ cC U → d < n → x_rn (mX3_findFirstWire_10 F n (some (b + 1)) (nI i) (nI j) (U 13 (10 * i + j)) (nI (cC U - d))) σ = some ((fw U i j d).map (ad 7), σ) := by
  have k2 := h.fK.2.1
  have k6 := h.fK.2.2.2.2.2.1
  have l6 := h.fL.2.2.2.1
  have r8 := h.fR.2.2.2.2.2.2.2.1
  have hC := hN.nC
  have hT : U 1 0 = nI (cC U) := hN.1.1
  intro d
  induction d with
  | zero =>
    intro n _ hn
    obtain ⟨n, rfl⟩ : ∃ m, n = m + 1 := ⟨n - 1, by omega⟩
    rw [mX3_findFirstWire_10]
    refine q_rI k2 (h.z300.trans hT) ?_
    refine q_t (by rw [Nat.sub_zero]; exact nI_le (Nat.le_refl _) (by omega)) ?_
    exact q_e
  | succ d ih =>
    intro n hd hn
    obtain ⟨n, rfl⟩ : ∃ m, n = m + 1 := ⟨n - 1, by omega⟩
    have e := ih n (by omega) (by omega)
    have hx : 10 * i + (cC U - (d + 1)) < 100 := by omega
    have hs := hS i (cC U - (d + 1)) hi (by omega)
    rw [mX3_findFirstWire_10]
    refine q_rI k2 (h.z300.trans hT) ?_
    refine q_f (nI_ge (by omega) (by omega)) ?_
    refine q_st (e_cell _ _ _ _) ?_
    refine q_st (e_isCell F hx σ) ?_
    refine q_f (by decide) ?_
    refine q_rR k2 r8 ?_
    refine q_aQ rfl k6 l6 hx (by decide) hs ?_
    cases es : stf U i (cC U - (d + 1)) (cW U) with
    | none =>
      have ef : fw U i j (d + 1) = fw U i j d := by simp only [fw, es]
      rw [ef]
      refine q_t rfl ?_
      refine q_p ?_
      rw [nI_s1 hd]
      exact e
    | some w =>
      have hw := ((stf_spec (T := U) (i := i) (j := cC U - (d + 1)) (cW U)).2 w es).1
      have w10 := (hN.2.2.1 w hw).2.2.2.1
      have el := e_leastOf h F (i := cC U - (d + 1)) (k := j) (by omega) hj
      have l1 := hN.2.2.2 (10 * (cC U - (d + 1)) + j) (by omega)
      have l2 := hN.2.2.2 (10 * i + j) (by omega)
      have eq : (U 10 w + U 13 (10 * (cC U - (d + 1)) + j) = U 13 (10 * i + j)) ↔ (ix (U 10 w) + Dm U (cC U - (d + 1)) j = Dm U i j) := by
        have b1 := w10.2
        have b2 := l1.2
        have s1 : U 10 w + U 13 (10 * (cC U - (d + 1)) + j) = nI (ix (U 10 w) + ix (U 13 (10 * (cC U - (d + 1)) + j))) := by rw [← nI_add, ← w10.1, ← l1.1]
        rw [s1]
        constructor
        · intro q
          have := congrArg ix q
          rw [ix_nI (by omega)] at this
          exact this
        · intro q
          exact (congrArg nI q).trans l2.1.symm
      refine q_f n_some ?_
      refine q_rI (h.k7 _ hw) (h.w2 _ hw) ?_
      refine q_cl k2 el ?_
      by_cases c : ix (U 10 w) + Dm U (cC U - (d + 1)) j = Dm U i j
      · have ef : fw U i j (d + 1) = some w := by simp only [fw, es, c, if_true]
        rw [ef]
        exact q_t (eq.mpr c) q_e
      · have ef : fw U i j (d + 1) = fw U i j d := by simp only [fw, es, c, if_false]
        rw [ef]
        refine q_f (fun q => c (eq.mp q)) ?_
        refine q_p ?_
        rw [nI_s1 hd]
        exact e
theorem e_layL (hN : NT U) {W : Nat → Nat → Nat → Prop} (hL : LW (Dm U) W) (hW : ∀ w x y, w < cW U → ot U w x = some y → W x y (ix (U 10 w))) {F : Nat} (hF : 100 < F) : ∀ (d n i : Nat) (σ : PH), i + d = 100 → d < n → RX b ad U Q σ → (∀ i j, i < 10 → j < 10 → x_Q σ (b + 5) (10 * i + j) = (stf U i j (cW U)).map (ad 7)) → (∀ x, x < i → x_Q σ (b + 6) x = (nwf U (x / 10) (x % 10) (cW U)).map (ad 7)) → ∃ σ', x_rn (mX3_layWays_2 F n (some (b + 1)) (nI i)) σ = some ((), σ') ∧ RX b ad U Q σ' ∧ SQ b σ σ' ∧ WY b ad U σ' := by
  intro d
  induction d with
  | zero =>
    intro n i σ hi hn h hS hD
    obtain ⟨n, rfl⟩ : ∃ m, n = m + 1 := ⟨n - 1, by omega⟩
    have e : i = 100 := by omega
    subst e
    refine ⟨σ, ?_, h, SQ.refl b σ, fun i j hi hj => ?_, hS⟩
    · rw [mX3_layWays_2]
      refine q_rR h.fK.2.1 h.fR.2.2.2.2.2.2.2.2.1 ?_
      refine q_aL h.fK.2.2.2.2.2.2.1 h.fL.2.2.2.2.1 ?_
      refine q_t (nI_le (Nat.le_refl _) (by decide)) ?_
      exact q_e
    · have := hD (10 * i + j) (by omega)
      rw [show (10 * i + j) / 10 = i by omega, show (10 * i + j) % 10 = j by omega] at this
      exact this
  | succ d ih =>
    intro n i σ hi hn h hS hD
    obtain ⟨n, rfl⟩ : ∃ m, n = m + 1 := ⟨n - 1, by omega⟩
    have hi2 : i < 100 := by omega
    have k2 := h.fK.2.1
    have k7 := h.fK.2.2.2.2.2.2.1
    have l6 := h.fL.2.2.2.2.1
    have r9 := h.fR.2.2.2.2.2.2.2.2.1
    have hC := hN.nC
    have efw := fw_nwf hN hL hW (i := i / 10) (j := i % 10) (by omega) (by omega)
    have ef := e_ffL h hN hS F (i := i / 10) (j := i % 10) (by omega) (by omega) (cC U) F (Nat.le_refl _) (by omega)
    rw [efw, Nat.sub_self] at ef
    have e1 : x_rn (mX3_findFirstWire F (some (b + 1)) (nI (i / 10)) (nI (i % 10))) σ = some ((nwf U (i / 10) (i % 10) (cW U)).map (ad 7), σ) := by
      unfold mX3_findFirstWire
      refine q_cl k2 (e_leastOf h F (i := i / 10) (k := i % 10) (by omega) (by omega)) ?_
      exact ef
    have fit : x_fit σ ((nwf U (i / 10) (i % 10) (cW U)).map (ad 7)) 7 = true := by
      cases e : nwf U (i / 10) (i % 10) (cW U) with
      | none => rfl
      | some w =>
        show (x_K σ (ad 7 w) == 7 + 1) = true
        rw [h.k7 _ (nwf_some e).1]; rfl
    obtain ⟨σ', g1, g2, g3, g4⟩ := ih n (i + 1) (x_uQ σ (b + 6) i ((nwf U (i / 10) (i % 10) (cW U)).map (ad 7))) (by omega) (by omega) (h.uQ5 (b + 6) i (Or.inr rfl) _) (fun a c ha hc => by
        show (if b + 5 = b + 6 ∧ 10 * a + c = i then _ else x_Q σ (b + 5) (10 * a + c)) = _
        rw [if_neg (by omega)]; exact hS a c ha hc) (fun x hx => by
        show (if b + 6 = b + 6 ∧ x = i then _ else x_Q σ (b + 6) x) = _
        by_cases q : x = i
        · rw [if_pos ⟨rfl, q⟩, q]
        · rw [if_neg (fun z => q z.2)]; exact hD x (by omega))
    refine ⟨σ', ?_, g2, ?_, g4⟩
    · rw [mX3_layWays_2]
      refine q_rR k2 r9 ?_
      refine q_aL k7 l6 ?_
      refine q_f (nI_ge hi2 (by decide)) ?_
      refine q_rR k2 r9 ?_
      rw [show nI i / (10 : Int32) = nI (i / 10) from pk_div (d := 10) (by omega) (by decide) (by decide), show x_rem (nI i) (10 : Int32) = nI (i % 10) from pk_rem (d := 10) (by omega) (by decide) (by decide)]
      refine q_cl k2 e1 ?_
      refine q_sQ rfl k7 l6 hi2 (by decide) fit ?_
      refine q_p ?_
      rw [nI_1]
      exact g1
    · exact SQ.tr ⟨rfl, rfl, rfl, rfl, fun _ q => q⟩ g3
end PLy
