section PI9
variable {b : Nat} {r : Nat → Nat → Option Nat} {q : Nat → Int32} {p : Int32} {σ : PH}
def ch (r0 : Option Nat) (f : PM Unit) : Nat → Nat → PM Unit
  | 0, _ => f
  | d + 1, j => x_bd (x_mA (x_kd (x_fo j)) (nI (x_ln (x_fo j)))) fun v => x_bd (x_wR r0 9 (x_fo j) v) fun _ => ch r0 f d (j + 1)
theorem init9_ch (F : Nat) (r0 : Option Nat) : mX9_init F r0 = ch r0 (x_bd (x_cV r0 9 (mX9_reckons F r0)) fun _ => (x_pr ())) 40 1 := rfl
theorem kT_hi {j : Nat} (h : 1 ≤ j) : kT (12 + j) = x_kd (x_fo j) + 11 := by
  unfold kT
  split <;> first | omega | (rw [Nat.add_sub_cancel_left])
theorem lT_hi {j : Nat} (h : 1 ≤ j) : lT (12 + j) = x_ln (x_fo j) := by
  unfold lT
  split <;> first | omega | (rw [Nat.add_sub_cancel_left])
theorem sz_hi {j : Nat} (h : 1 ≤ j) : sz (12 + j) = x_ln (x_fo j) := by
  unfold sz
  split <;> first | omega | exact lT_hi h
theorem ch_run {rc : Nat → Nat → Option Nat} {f : PM Unit} : ∀ (d j : Nat) (σ : PH) (r : Nat → Nat → Option Nat), j + d = 41 → 1 ≤ j → CL b (12 + j) r q p σ → (∀ i, 1 ≤ i → i < j → r (900 + x_fo i) (b + 12) = some (b + 12 + i)) → (∀ g a, a < b + 12 → r g a = rc g a) → ∃ σ' r', x_rn (ch (some (b + 12)) f d j) σ = x_rn f σ' ∧ CL b 53 r' q p σ' ∧ (∀ i, 1 ≤ i → i ≤ 40 → r' (900 + x_fo i) (b + 12) = some (b + 12 + i)) ∧ (∀ g a, a < b + 12 → r' g a = rc g a) := by
  intro d
  induction d with
  | zero =>
    intro j σ r hj h1 c hr hc
    have e : j = 41 := by omega
    subst e
    exact ⟨σ, r, rfl, c, fun i a e => hr i a (by omega), hc⟩
  | succ d ih =>
    intro j σ r hj h1 c hr hc
    obtain ⟨g1, g2⟩ := x_fok j (by omega) (by omega)
    have lk := (x_odk g1).2.2.2
    have c1 := c.nA (kd := x_kd (x_fo j)) (n := x_ln (x_fo j)) (kT_hi h1) (lT_hi h1) (sz_hi h1) (fun e => by omega)
    have c2 := c1.uR (900 + x_fo j) (b + 12) (some (b + 12 + j)) (by omega)
    have c3 : CL b (12 + (j + 1)) (x_up r (900 + x_fo j) (b + 12) (some (b + 12 + j))) q p (x_uR (x_nA σ (x_kd (x_fo j)) (x_ln (x_fo j))) (900 + x_fo j) (b + 12) (some (b + 12 + j))) := c2
    obtain ⟨σ', r', e1, e2, e3, e4⟩ := ih (j + 1) _ _ (by omega) (by omega) c3 (fun i i1 i2 => by
      by_cases e : i = j
      · rw [e]; exact x_up_s _ _ _ _
      · rw [x_up_n _ _ _ _ (by
          rintro ⟨z, -⟩
          have g3 := (x_fok i (by omega) (by omega)).2
          have : x_fo i = x_fo j := by omega
          rw [this, g2] at g3
          omega)]
        exact hr i i1 (by omega)) (fun g a ha => by
      rw [x_up_n _ _ _ _ (by omega)]; exact hc g a ha)
    refine ⟨σ', r', ?_, e2, e3, e4⟩
    refine Eq.trans ?_ e1
    have hN : x_N σ = b + 12 + j := by rw [c.1]; omega
    refine q_mA' hN (m := x_ln (x_fo j)) rfl (by omega) (q_wR (ci := 9) (c1.K (i := 12) (by omega)) ?_)
    rfl
def T0 : Tb := fun _ _ => 0
def TI : Tb := tE T0 E0
theorem NT_0 : NT T0 := by
  have zW : cW T0 = 0 := rfl
  exact ⟨⟨rfl, by decide⟩, ⟨rfl, by decide⟩, by intros; exfalso; omega, fun i _ => ⟨rfl, by show ix (0 : Int32) < 1000001; decide⟩⟩
theorem reck_0 {F : Nat} (hF : 40000000000 < F) : tX9_reckons F T0 = some ((), TI) := by
  have zW : cW T0 = 0 := rfl
  obtain ⟨E, g1, g2⟩ := t_reckons NT_0 hF
  have L0 : LW E0 (WR T0) := by
    refine ⟨fun i _ => if_pos rfl, fun i j _ _ => ?_, fun i l t hw => ?_, fun i j _ _ hne hd => ?_, fun i l t hw => ?_⟩
    · unfold E0; split <;> omega
    · obtain ⟨w, hw, -⟩ := hw; omega
    · unfold E0 at hd; rw [if_neg hne] at hd; omega
    · obtain ⟨w, hw, -⟩ := hw; omega
  rw [g1]
  refine congrArg (fun W => some ((), W)) ?_
  unfold TI tE
  congr 1
  funext i
  by_cases c : i < 100
  · rw [if_pos c, if_pos c, g2.uniq L0 (by omega) (by omega)]
  · rw [if_neg c, if_neg c]
theorem RM_0 (c : CL b 53 r q p σ) (hr : ∀ i, 1 ≤ i → i ≤ 40 → r (900 + x_fo i) (b + 12) = some (b + 12 + i)) : RM b T0 σ := by
  refine ⟨⟨c.K (i := 12) (by omega), fun k hk => ?_⟩, fun k hk => ?_, fun k hk i => ?_⟩
  · obtain ⟨o1, o2, o3, -⟩ := x_odk hk
    have h1 := hr (x_od k) o1 o2
    rw [o3] at h1
    have h2 := c.K (i := 12 + x_od k) (by omega)
    have h3 := c.L (i := 12 + x_od k) (by omega)
    rw [kT_hi o1, o3] at h2
    rw [lT_hi o1, o3] at h3
    rw [← Nat.add_assoc] at h2 h3
    exact ⟨(c.R _ _).trans h1, h2, h3⟩
  · rw [c.2.2.2.2.1, if_neg (by omega)]; rfl
  · obtain ⟨o1, o2, -⟩ := x_odk hk
    rw [c.2.2.2.2.2.1, if_neg (by omega)]; rfl
theorem INV_0 (c : CL b 53 r (qI 100) (1000000 : Int32) σ) (hM : RM b T0 σ) (f0 : r 800 b = some (b + 1)) (f1 : r 801 b = some (b + 7)) (f2 : r 802 b = some (b + 10)) (f3 : r 803 b = some (b + 11)) (f4 : r 302 (b + 1) = some (b + 2)) (f5 : r 303 (b + 1) = some (b + 3)) (f6 : r 304 (b + 1) = some (b + 4)) (f7 : r 305 (b + 1) = some (b + 5)) (f8 : r 306 (b + 1) = some (b + 6)) (f9 : r 0 (b + 7) = some (b + 8)) (f10 : r 1 (b + 7) = some (b + 9)) : INV b (fun _ _ => 0) TI (fun _ => []) (x_wT σ (b + 12) TI) := by
  have zC : cC TI = 0 := rfl
  have zW : cW TI = 0 := rfl
  have zO : cO TI = 0 := rfl
  have zM : cM TI = 0 := rfl
  have zI : ∀ f a, ¬ f = 807 → x_I σ f a = 0 := fun f a h => by rw [c.2.2.2.2.1, if_neg (fun z => h z.1)]
  have zA : ∀ a i, a ≠ b + 4 → x_A σ a i = 0 := fun a i h => by rw [c.2.2.2.2.2.1, if_neg h]
  have dm : ∀ i j, i < 10 → j < 10 → Dm TI i j = E0 i j := fun i j hi hj => by
    show ix (if 10 * i + j < 100 then nI (E0 ((10 * i + j) / 10) ((10 * i + j) % 10)) else 0) = _
    rw [if_pos (by omega), show (10 * i + j) / 10 = i by omega, show (10 * i + j) % 10 = j by omega, ix_nI (by unfold E0; split <;> omega)]
  have zL : ∀ i, i < 100 → x_A σ (b + 4) i = TI 13 i := fun i hi => by
    show _ = (if i < 100 then nI (E0 (i / 10) (i % 10)) else 0)
    rw [c.2.2.2.2.2.1, if_pos rfl, if_pos hi]
    unfold qI E0
    rw [if_pos hi]
    by_cases e : i / 10 = i % 10
    · rw [if_pos e, if_pos e]; rfl
    · rw [if_neg e, if_neg e]; rfl
  refine ⟨?_, hM.wT TI, ?_, ⟨by intros; exfalso; omega, by intros; exfalso; omega⟩, by intro m hm; exfalso; omega, ⟨fun i j _ _ => ?_, fun i j _ _ => ?_⟩, ?_⟩
  · exact ⟨⟨c.K (i := 0) (by omega), c.K (i := 1) (by omega), c.K (i := 2) (by omega), c.K (i := 3) (by omega), c.K (i := 4) (by omega), c.K (i := 5) (by omega), c.K (i := 6) (by omega), c.K (i := 7) (by omega), c.K (i := 8) (by omega), c.K (i := 9) (by omega), c.K (i := 10) (by omega), c.K (i := 11) (by omega)⟩, ⟨c.L (i := 2) (by omega), c.L (i := 3) (by omega), c.L (i := 4) (by omega), c.L (i := 5) (by omega), c.L (i := 6) (by omega), c.L (i := 8) (by omega), c.L (i := 9) (by omega), c.L (i := 10) (by omega), c.L (i := 11) (by omega)⟩, ⟨(c.R _ _).trans f0, (c.R _ _).trans f1, (c.R _ _).trans f2, (c.R _ _).trans f3, (c.R _ _).trans f4, (c.R _ _).trans f5, (c.R _ _).trans f6, (c.R _ _).trans f7, (c.R _ _).trans f8, (c.R _ _).trans f9, (c.R _ _).trans f10⟩, (fun a ha => by
    have hn : x_N (x_wT σ (b + 12) TI) = b + 53 := c.1
    rw [hn]
    by_cases e : b + 53 ≤ a
    · exact absurd (c.2.2.1 a (Or.inr e)) ha
    · omega), (by intros; exfalso; omega), (by intros; exfalso; omega), (by intros; exfalso; omega), (by intros; exfalso; omega), (by intros; exfalso; omega), (by intros; exfalso; omega), (by intros; exfalso; omega), (by intros; exfalso; omega), (by intros; exfalso; omega), (by intros; exfalso; omega), (by intros; exfalso; omega), (by intros; exfalso; omega), (by intros; exfalso; omega), (by intros; exfalso; omega), (by intros; exfalso; omega), (by intros; exfalso; omega), (by intros; exfalso; omega), (by intros; exfalso; omega), (by intros; exfalso; omega), (by intros; exfalso; omega), (by intros; exfalso; omega), (by intros; exfalso; omega), (by intros; exfalso; omega), (by intros; exfalso; omega), (by intros; exfalso; omega), (by intros; exfalso; omega), (by intros; exfalso; omega), (by intros; exfalso; omega), (by intros; exfalso; omega), (by intros; exfalso; omega), (by intros; exfalso; omega), (by intros; exfalso; omega), (by intros; exfalso; omega), (by intros; exfalso; omega), (by intros; exfalso; omega), (by intros; exfalso; omega), (by intros; exfalso; omega), (by intros; exfalso; omega), (by intros; exfalso; omega), (by intros; exfalso; omega), (by intros; exfalso; omega), (by intros; exfalso; omega), (by intros; exfalso; omega), (by intros; exfalso; omega), (by intros; exfalso; omega), (by intros; exfalso; omega), (by intros; exfalso; omega), (by intros; exfalso; omega), (by intros; exfalso; omega), (by intros; exfalso; omega), (by intros; exfalso; omega), (by intros; exfalso; omega), (by intros; exfalso; omega), (by intros; exfalso; omega), (by intros; exfalso; omega), (by intros; exfalso; omega), (by intros; exfalso; omega), ((x_wT_Il _ _ _ _ _ (by decide)).trans (zI 804 b (by decide))), ((x_wT_Il _ _ _ _ _ (by decide)).trans (zI 805 b (by decide))), ((x_wT_Il _ _ _ _ _ (by decide)).trans (zI 806 b (by decide))), ((x_wT_Il _ _ _ _ _ (by decide)).trans (zI 808 b (by decide))), ((x_wT_Il _ _ _ _ _ (by decide)).trans (zI 809 b (by decide))), ((x_wT_Il _ _ _ _ _ (by decide)).trans (zI 810 b (by decide))), ((x_wT_Il _ _ _ _ _ (by decide)).trans (zI 300 (b + 1) (by decide))), ((x_wT_Il _ _ _ _ _ (by decide)).trans (zI 301 (b + 1) (by decide))), ((x_wT_Il _ _ _ _ _ (by decide)).trans (zI 2 (b + 7) (by decide))), (by intros; exfalso; omega), (by intros; exfalso; omega), (by intros; exfalso; omega), (by intros; exfalso; omega), (fun i hi => (x_wT_Al _ _ _ _ _ (Or.inl (by omega))).trans (zA (b + 8) i (by omega))), (fun i hi => (x_wT_Al _ _ _ _ _ (Or.inl (by omega))).trans (zA (b + 9) i (by omega))), (fun i hi => (x_wT_Al _ _ _ _ _ (Or.inl (by omega))).trans (zL i hi))⟩
  · exact ⟨⟨rfl, by decide⟩, ⟨rfl, by decide⟩, ⟨rfl, by decide⟩, ⟨rfl, by decide⟩, ⟨rfl, by decide⟩, ⟨rfl, by decide⟩, ⟨rfl, Nat.succ_pos _⟩, (by intros; exfalso; omega), (by intros; exfalso; omega), (fun i hi => by
    show isN (if i < 100 then nI (E0 (i / 10) (i % 10)) else 0) 1000001
    rw [if_pos hi]
    exact isN.of (by unfold E0; split <;> omega) (by decide)), (fun i hi => by rw [dm i i hi hi]; exact if_pos rfl), (by intros; exfalso; omega), (fun i j hi hj hne hd => by
    rw [dm i j hi hj] at hd
    unfold E0 at hd
    rw [if_neg hne] at hd
    exact absurd hd (by omega)), (by intros; exfalso; omega), (by intros; exfalso; omega), (by intros; exfalso; omega), (by intros; exfalso; omega), (by intros; exfalso; omega), (fun i _ => ⟨rfl, rfl⟩), (fun i _ => ⟨rfl, rfl⟩), (fun i _ => ⟨rfl, rfl, rfl, rfl, rfl, rfl⟩), (fun i _ => ⟨rfl, rfl⟩), (by intros; exfalso; omega)⟩
  · rw [zW]; exact c.2.2.2.2.2.2.1 _ _
  · rw [zW]; exact c.2.2.2.2.2.2.1 _ _
  · have hN : x_N (x_wT σ (b + 12) TI) = b + 53 := c.1
    have hU : x_U (x_wT σ (b + 12) TI) = sT sz 53 := c.2.2.2.2.2.2.2.2.2
    have hz : sT sz 53 ≤ 40000 := by decide +kernel
    refine ⟨by omega, by omega, by omega⟩
theorem e_start {F : Nat} (hF : 40000000000 < F) (b : Nat) {α : Type} {kf : Option Nat → Option Nat → PM α} : ∃ σ, x_rn (x_bd (x_mO 8) fun v0 => x_bd (mX8_init F v0) fun _ => x_bd (x_mO 9) fun v8 => x_bd (mX9_init F v8) fun _ => kf v0 v8) (x_s0 b) = x_rn (kf (some b) (some (b + 12))) (x_wT σ (b + 12) TI) ∧ INV b (fun _ _ => 0) TI (fun _ => []) (x_wT σ (b + 12) TI) := by
  have c1 := (CL.start (b := b)).nO (ci := 8) rfl rfl rfl (fun _ => rfl)
  obtain ⟨σ2, r2, e2, c2, f0, f1, f2, f3, f4, f5, f6, f7, f8, f9, f10⟩ := e_init8 (F := F) (by omega) c1
  have c3 := c2.nO (ci := 9) rfl rfl rfl (fun e => by omega)
  obtain ⟨σ4, r4, e4, c4, g1, g2⟩ := ch_run (rc := r2) (f := x_bd (x_cV (some (b + 12)) 9 (mX9_reckons F (some (b + 12)))) fun _ => (x_pr ())) 40 1 (x_nO σ2 9) r2 (by omega) (by omega) c3 (fun i h1 h2 => by omega) (fun _ _ _ => rfl)
  have hM := RM_0 c4 g1
  have er := hM.run (fun hk => sX9_reckons hk F) (reck_0 hF)
  refine ⟨σ4, ?_, INV_0 c4 hM (by rw [g2 _ _ (by omega)]; exact f0) (by rw [g2 _ _ (by omega)]; exact f1) (by rw [g2 _ _ (by omega)]; exact f2) (by rw [g2 _ _ (by omega)]; exact f3) (by rw [g2 _ _ (by omega)]; exact f4) (by rw [g2 _ _ (by omega)]; exact f5) (by rw [g2 _ _ (by omega)]; exact f6) (by rw [g2 _ _ (by omega)]; exact f7) (by rw [g2 _ _ (by omega)]; exact f8) (by rw [g2 _ _ (by omega)]; exact f9) (by rw [g2 _ _ (by omega)]; exact f10)⟩
  have e9 : x_rn (mX9_init F (some (b + 12))) (x_nO σ2 9) = some ((), x_wT σ4 (b + 12) TI) := by
    rw [init9_ch, e4]
    refine q_cl (ci := 9) hM.1.1 er ?_
    exact q_e
  refine q_mO' (n := b) rfl ?_
  refine q_st e2 ?_
  refine q_mO' c2.1 ?_
  refine q_st e9 ?_
  rfl
end PI9
