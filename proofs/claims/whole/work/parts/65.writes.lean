section PWs
variable {b : Nat} {ad : Ad} {T T2 : Tb} {Q : Qs} {σ : PH} {s k : Nat}
def tDi (T : Tb) (m : Nat) (g : Nat → Int32) (i : Nat) : Tb := fun k x => if k = 45 ∧ 13 * m ≤ x ∧ x < 13 * m + i then g (x - 13 * m) else T k x
theorem tDi_0 {m : Nat} {g : Nat → Int32} : tDi T m g 0 = T := up_ext (fun k x => if_neg (by omega))
theorem tDi_s {m i : Nat} {g : Nat → Int32} : x_up (tDi T m g i) 45 (13 * m + i) (g i) = tDi T m g (i + 1) := by
  refine up_ext (fun k x => ?_)
  rw [x_upA]
  unfold tDi
  by_cases c : k = 45 ∧ x = 13 * m + i
  · rw [if_pos c, if_pos (by omega), c.2, Nat.add_sub_cancel_left]
  · rw [if_neg c]
    by_cases c2 : k = 45 ∧ 13 * m ≤ x ∧ x < 13 * m + i
    · rw [if_pos c2, if_pos (by omega)]
    · rw [if_neg c2, if_neg (by omega)]
theorem dg_a {o i : Nat} (h20 : ix (T 20 o) < 100000) (h21 : ix (T 21 o) < 10000) (hi : i < 4) : nI (o / 10 ^ (3 - i) % 10) = dgs T o i := by
  unfold dgs dN
  congr 1
  rcases (by omega : i = 0 ∨ i = 1 ∨ i = 2 ∨ i = 3) with rfl | rfl | rfl | rfl <;> simp only [Nat.reduceSub, Nat.reducePow] <;> omega
theorem dg_b {o i : Nat} (h20 : ix (T 20 o) < 100000) (h21 : ix (T 21 o) < 10000) (hi : 4 ≤ i) (hi2 : i < 9) : nI (ix (T 20 o) / 10 ^ (8 - i) % 10) = dgs T o i := by
  unfold dgs dN
  congr 1
  rcases (by omega : i = 4 ∨ i = 5 ∨ i = 6 ∨ i = 7 ∨ i = 8) with rfl | rfl | rfl | rfl | rfl <;> simp only [Nat.reduceSub, Nat.reducePow] <;> omega
theorem dg_c {o i : Nat} (h20 : ix (T 20 o) < 100000) (h21 : ix (T 21 o) < 10000) (hi : 9 ≤ i) (hi2 : i < 13) : nI (ix (T 21 o) / 10 ^ (12 - i) % 10) = dgs T o i := by
  unfold dgs dN
  congr 1
  rcases (by omega : i = 9 ∨ i = 10 ∨ i = 11 ∨ i = 12) with rfl | rfl | rfl | rfl <;> simp only [Nat.reduceSub, Nat.reducePow] <;> omega
theorem t_wr91 {F : Nat} (hF : 1000 < F) {U V : Tb} {o m : Nat} {f dy : Int32} (ho : o < 200) (hm : m < 1000) (j20 : isN (U 20 o) 100000) (j21 : isN (U 21 o) 10000) (hd : U 44 m = dy) (hq : tX9_queues F (nI m) f (x_up (x_up (tD U m (dgs U o)) 43 m (x_rem (tsm (dgs U o) dy 13) (97 : Int32))) 29 o (U 29 o + 1)) = some ((), V)) : ∀ (d n i : Nat), i + d = 13 → d < n → tX9_writes_91 F n (nI o) f (nI m) (nI i) (tDi U m (dgs U o) i) = some (nI m, V) := by
  intro d
  induction d with
  | zero =>
    intro n i hi hn
    obtain ⟨n, rfl⟩ : ∃ m, n = m + 1 := ⟨n - 1, by omega⟩
    have : i = 13 := by omega
    subst this
    have tt := t_testOf (T := tDi U m (dgs U o) 13) (g := dgs U o) (dy := dy) hm hd (fun j hj => tD_at hj) (F := F) (by omega)
    rw [tX9_writes_91]
    refine r_t (nI_le (a := 13) (Nat.le_refl _) (by decide)) ?_
    refine r_st tt ?_
    refine r_s rfl hm ?_
    refine r_a rfl ho rfl ?_
    refine r_s rfl ho ?_
    refine r_st hq ?_
    rfl
  | succ d ih =>
    intro n i hi hn
    obtain ⟨n, rfl⟩ : ∃ m, n = m + 1 := ⟨n - 1, by omega⟩
    have e2 := ih n (i + 1) (by omega) (by omega)
    have h13 : 13 * m + i < 13000 := by omega
    have b20 := j20.2
    have b21 := j21.2
    rw [← tDi_s] at e2
    rw [tX9_writes_91]
    refine r_f (nI_ge (b := 13) (by omega) (by decide)) ?_
    by_cases c1 : i < 4
    · have td := t_digit (T := tDi U m (dgs U o) i) (F := F) (by omega) (v := o) (K := 3 - i) (by omega) (by omega)
      rw [dg_a b20 b21 c1, ← pk_sub (a := 3) (b := i) (by omega)] at td
      refine r_f (nI_ge (b := 4) (by omega) (by decide)) ?_
      refine r_st td ?_
      refine r_s (nI13 m i) h13 ?_
      refine r_q ?_
      rw [nI_1]
      exact e2
    · by_cases c2 : i < 9
      · have td := t_digit (T := tDi U m (dgs U o) i) (F := F) (by omega) (v := ix (U 20 o)) (K := 8 - i) (by omega) (by omega)
        rw [dg_b b20 b21 (by omega) c2, ← pk_sub (a := 8) (b := i) (by omega), ← j20.1] at td
        refine r_t (nI_le (a := 4) (by omega) (by omega)) ?_
        refine r_f (nI_ge (b := 9) (by omega) (by decide)) ?_
        refine r_a rfl ho rfl ?_
        refine r_st td ?_
        refine r_s (nI13 m i) h13 ?_
        refine r_q ?_
        rw [nI_1]
        exact e2
      · have td := t_digit (T := tDi U m (dgs U o) i) (F := F) (by omega) (v := ix (U 21 o)) (K := 12 - i) (by omega) (by omega)
        rw [dg_c b20 b21 (by omega) (by omega), ← pk_sub (a := 12) (b := i) (by omega), ← j21.1] at td
        refine r_t (nI_le (a := 4) (by omega) (by omega)) ?_
        refine r_t (nI_le (a := 9) (by omega) (by omega)) ?_
        refine r_a rfl ho rfl ?_
        refine r_st td ?_
        refine r_s (nI13 m i) h13 ?_
        refine r_q ?_
        rw [nI_1]
        exact e2
theorem tN_29 {kd oI f t dy te v : Int32} {o : Nat} {g : Nat → Int32} : tN (x_up T 29 o v) kd oI f t dy te g = x_up (tN T kd oI f t dy te g) 29 o v := by
  refine up_ext (fun x y => ?_)
  have e : cM (x_up T 29 o v) = cM T := rfl
  unfold tN tM tD
  rw [e]
  simp only [x_upA]
  by_cases hx : x = 29
  · subst hx; simp
  · simp only [hx, false_and, if_false]
theorem tN_id {kd oI f t : Int32} : tN T kd oI f t (T 44 (cM T)) (T 43 (cM T)) (fun j => T 45 (13 * cM T + j)) = tM T kd oI f t := by
  unfold tN
  have e1 : x_up (tM T kd oI f t) 44 (cM T) (T 44 (cM T)) = tM T kd oI f t := x_up_id (tM T kd oI f t) 44 (cM T)
  rw [e1]
  have e2 : tD (tM T kd oI f t) (cM T) (fun j => T 45 (13 * cM T + j)) = tM T kd oI f t := by
    refine up_ext (fun x y => ?_)
    unfold tD
    by_cases c : x = 45 ∧ 13 * cM T ≤ y ∧ y < 13 * cM T + 13
    · rw [if_pos c, c.1]
      show T 45 (13 * cM T + (y - 13 * cM T)) = _
      rw [show 13 * cM T + (y - 13 * cM T) = y by omega]
      rfl
    · rw [if_neg c]
  rw [e2]
  exact x_up_id (tM T kd oI f t) 43 (cM T)
theorem nwf_to {T T' : Tb} {i j n w : Nat} (hw : nwf T i j n = some w) (h8 : T' 8 = T 8) (h9 : T' 9 = T 9) (h10 : T' 10 = T 10) (h13 : T' 13 = T 13) : nwf T' i j n = some w := (nwf_congr h8 h9 h10 h13 i j n).trans hw
theorem t_wrTail (hJ : JT s T) (hn : cM T < 1000) {F : Nat} {kd oI f t : Int32} {z : Option (Int32 × Tb)} (h : (if kd = 0 then t_bd (t_g 0) fun v80 => t_bd (t_s 44 (nI (cM T)) (v80 / (1440 : Int32))) fun _ => (tX9_writes_91 F F oI f (nI (cM T)) (0 : Int32)) else t_bd (tX9_queues F (nI (cM T)) f) fun _ => (t_pr (nI (cM T)))) (tM T kd oI f t) = z) : tX9_writes F kd oI f t T = z := by
  have hT : T 30 0 = nI (cM T) := hJ.M.1
  unfold tX9_writes
  refine r_g hT ?_
  refine r_f (fun q => by have := congrArg ix q; rw [ix_nI (by omega)] at this; have e : ix (1000 : Int32) = 1000 := rfl; omega) ?_
  refine r_g hT ?_
  refine r_s rfl hn ?_
  refine r_s rfl hn ?_
  refine r_s rfl hn ?_
  refine r_s rfl hn ?_
  refine r_s rfl hn ?_
  refine r_g hT ?_
  refine r_p ?_
  rw [nI_1]
  exact h
theorem INX.write (h : INX s k b ad T Q T2 σ) (hs : s ≤ 1000) {F : Nat} (hF : 1000 < F) {kd : Int32} {o : Nat} (ho : o < cO T) {f t : Int32} (hft : ((kd = 0 ∨ kd = 1) ∧ f = T 18 o ∧ t = T 19 o) ∨ ((kd = 2 ∨ kd = 3) ∧ f = T 19 o ∧ t = T 18 o)) : ∃ σ' ad' T' Q', x_rn (mX8_write F (some b) kd (some (ad 4 o))) σ = some ((), σ') ∧ tX9_writes F kd (nI o) f t T = some (if cM T < 1000 then nI (cM T) else -1, T') ∧ INX s k b ad' T' Q' T2 σ' ∧ x_I σ' 807 b = x_I σ 807 b ∧ ad' 4 = ad 4 ∧ T' 0 = T 0 ∧ T' 17 = T 17 ∧ (∀ l, l < cM T → T' 35 l = T 35 l) ∧ cM T ≤ cM T' ∧ (∀ l, cM T ≤ l → l < cM T' → T' 35 l ≠ 1) := by
  have hJ := h.j
  have hX := h.fx
  have hMn := hJ.nM
  have hO := hJ.nO
  have k1 := hX.fK.1
  have hT : T 30 0 = nI (cM T) := hJ.M.1
  have ec := e_canWrite hX hJ F
  by_cases hn : cM T < 1000
  case neg =>
    have c1000 : cM T = 1000 := by omega
    refine ⟨σ, ad, T, Q, ?_, ?_, h, rfl, rfl, rfl, rfl, fun _ _ => rfl, Nat.le_refl _, fun l h1 h2 => by omega⟩
    · unfold mX8_write
      refine q_cl k1 ec ?_
      refine q_t (bi_z hn) ?_
      exact q_e
    · unfold tX9_writes
      rw [if_neg hn]
      refine r_g hT ?_
      refine r_t (by rw [c1000]; rfl) ?_
      rfl
  rw [if_pos hn]
  obtain ⟨-, hM, -, hQ, hA, hY, hR⟩ := h
  obtain ⟨j18, j19, jne, j20, j21, jD⟩ := hJ.or o ho
  have ho2 : o < 200 := by omega
  have hkd : kd = 0 ∨ kd = 1 ∨ kd = 2 ∨ kd = 3 := by
    rcases hft with ⟨q | q, -⟩ | ⟨q | q, -⟩
    · exact Or.inl q
    · exact Or.inr (Or.inl q)
    · exact Or.inr (Or.inr (Or.inl q))
    · exact Or.inr (Or.inr (Or.inr q))
  have fin : ∀ w U, NT U → (U 34 (cM T) = t) → nwf U (ix f) (ix t) (cW U) = some w → cC U = cC T → tX9_queues F (nI (cM T)) f U = some ((), tq U (cM T) f w) := by
    intro w U hU h34 hw hc
    have isf : isN f (cC T) := by
      rcases hft with ⟨-, rfl, -⟩ | ⟨-, rfl, -⟩
      · exact j18
      · exact j19
    have ist : isN t (cC T) := by
      rcases hft with ⟨-, -, rfl⟩ | ⟨-, -, rfl⟩
      · exact j19
      · exact j18
    have := t_queues hU (F := F) (by omega) (m := cM T) (w := w) (p := ix f) hn (by rw [hc]; exact isf.2) (by rw [h34, hc]; exact ist) (by rw [h34]; exact hw)
    rw [← isf.1] at this
    exact this
  by_cases c0 : kd = 0
  · subst c0
    have hft' : f = T 18 o ∧ t = T 19 o := by
      rcases hft with ⟨-, q⟩ | ⟨q | q, -⟩
      · exact q
      · exact absurd q (by decide)
      · exact absurd q (by decide)
    obtain ⟨σ1, e1, fr, nN, nU, -, s1, s2, s3, s4, s5, s6, s7, s8⟩ := e_signs hX hJ (F := F) (by omega) ho (T 0 0 / (1440 : Int32))
    have B := hR.1
    have X1 := hX.fr hQ.lt fr
    have X2 := X1.u29 ho (T 29 o + 1)
    obtain ⟨R1, R2, R3⟩ := hR
    obtain ⟨σ', ad', w, g1, g2, g3, g4, g5⟩ := e_w59 (T := x_up T 29 o (T 29 o + 1)) (σ := x_uI σ1 412 (ad 4 o) (T 29 o + 1)) (s := s) (k := k) (T2 := T2) (f := f) (t := t) (gb := 0) (kd := 0) (dy := T 0 0 / (1440 : Int32)) (te := x_rem (tsm (dgs T o) (T 0 0 / (1440 : Int32)) 13) (97 : Int32)) (g := dgs T o) (a6 := x_N σ) (a10 := x_N σ + 1) X2 ((hM.fr B fr).uI _ (by decide)) (hJ.u29 ho) hQ (fun i hi hk hq => by
        show x_I σ1 807 b ≤ T 39 i
        rw [(fr.1 b (by omega)).2.1 807]; exact hA i hi hk hq) (hY.cg rfl rfl rfl rfl rfl rfl (fun i => ⟨(fr.1 (b + 5) (by omega)).2.2.2.2.1 i, (fr.1 (b + 6) (by omega)).2.2.2.2.1 i⟩)) (by show b + 53 ≤ x_N σ1; omega) (by
        show x_N σ1 + 1 ≤ b + 53 + cC T + 3 * cW T + cO T + 3 * (cM T + 1)
        omega) (by
        show x_U σ1 + 11 ≤ 40000 + 6 * cC T + 15 * cW T + 13 * cO T + 28 * (cM T + 1)
        omega) hs hn F ho (Or.inl ⟨rfl, hft'.1, hft'.2⟩) (Or.inl rfl) (fun _ => ⟨fun i hi hq => ⟨fun q => by
          have := hX.wf _ (by rw [hX.k6 i hi hq]; decide)
          omega, fun q => by
          have := hX.wf _ (by rw [(hX.kd i hi hq).1]; decide)
          omega⟩, by show x_N σ < x_N σ1; omega, by show x_N σ + 1 < x_N σ1; omega, s1, s2, s3, s4, s5, s6, s7, by omega, s8⟩) (fun q => absurd rfl q)
    have NTU : NT (x_up (x_up (tD (x_up (tM T 0 (nI o) f t) 44 (cM T) (T 0 0 / (1440 : Int32))) (cM T) (dgs T o)) 43 (cM T) (x_rem (tsm (dgs T o) (T 0 0 / (1440 : Int32)) 13) (97 : Int32))) 29 o (T 29 o + 1)) := hJ.nt
    have g5' : nwf T (ix f) (ix t) (cW T) = some w := (nwf_congr (T := T) (T' := x_up T 29 o (T 29 o + 1)) rfl rfl rfl rfl _ _ _).symm.trans g5
    have fq := fin w _ NTU (x_up_s T 34 (cM T) t) (nwf_to g5' rfl rfl rfl rfl) rfl
    refine ⟨σ', ad', _, _, ?_, ?_, g2, ?_, g4, rfl, rfl, fun l hl => ?_, ?_, ?_⟩
    · unfold mX8_write
      refine q_cl k1 ec ?_
      refine q_f (bi_n hn) ?_
      refine q_f (by decide) ?_
      refine q_f (by decide) ?_
      unfold mX8_write_23
      have kb : x_K (x_nO σ 6) b = 9 := by rw [K_nO, if_neg (by omega)]; exact k1
      have zb : x_I (x_nO σ 6) 806 b = T 0 0 := by rw [I_nO, if_neg (by omega)]; exact hX.z806
      refine q_t rfl ?_
      refine q_mO ?_
      refine q_rI kb zb ?_
      refine q_st e1 ?_
      refine q_rI (X1.k4 _ ho) (X1.o12 _ ho) ?_
      refine q_wI (X1.k4 _ ho) ?_
      exact g1
    · refine t_wrTail hJ hn ?_
      refine r_t rfl ?_
      refine r_g rfl ?_
      refine r_s rfl hn ?_
      have := t_wr91 hF (U := x_up (tM T 0 (nI o) f t) 44 (cM T) (T 0 0 / (1440 : Int32))) (o := o) (m := cM T) (f := f) ho2 hn j20 j21 (x_up_s _ 44 _ _) fq 13 F 0 (by omega) (by omega)
      rw [tDi_0] at this
      refine this.trans ?_
      rw [tN_29]
      rfl
    · rw [g3]
      show x_I σ1 807 b = _
      exact (fr.1 b (by omega)).2.1 807
    · exact (up_lt hl : x_up T 35 (cM T) 0 35 l = T 35 l)
    · show cM T ≤ ix (nI (cM T + 1))
      rw [ix_nI (by omega)]; omega
    · intro l h1 h2
      have h3 : l < ix (nI (cM T + 1)) := h2
      rw [ix_nI (by omega)] at h3
      have e : l = cM T := by omega
      rw [e]
      show x_up T 35 (cM T) 0 35 (cM T) ≠ 1
      rw [x_up_s]; decide
  · obtain ⟨gb, hg1, hg2⟩ : ∃ gb : Int32, ((gb = 0 ∧ f = T 18 o ∧ t = T 19 o) ∨ (gb = 1 ∧ f = T 19 o ∧ t = T 18 o)) ∧ x_rn (mX8_write F (some b) kd (some (ad 4 o))) σ = x_rn (mX8_write_59 F (some b) kd (some (ad 4 o)) gb none) σ := by
      have e59 : ∀ gb, x_rn (mX8_write_23 F (some b) kd (some (ad 4 o)) gb) σ = x_rn (mX8_write_59 F (some b) kd (some (ad 4 o)) gb none) σ := fun gb => by
        unfold mX8_write_23
        exact q_f c0 rfl
      rcases hft with ⟨q, q2⟩ | ⟨q, q2⟩
      · refine ⟨0, Or.inl ⟨rfl, q2⟩, ?_⟩
        have n2 : ¬ kd = 2 := by rcases q with rfl | rfl <;> decide
        have n3 : ¬ kd = 3 := by rcases q with rfl | rfl <;> decide
        unfold mX8_write
        refine q_cl k1 ec ?_
        refine q_f (bi_n hn) ?_
        refine q_f n2 ?_
        refine q_f n3 ?_
        exact e59 0
      · refine ⟨1, Or.inr ⟨rfl, q2⟩, ?_⟩
        unfold mX8_write
        refine q_cl k1 ec ?_
        refine q_f (bi_n hn) ?_
        by_cases n2 : kd = 2
        · exact q_t n2 (e59 1)
        · refine q_f n2 ?_
          rcases q with q | q
          · exact absurd q n2
          · exact q_t q (e59 1)
    obtain ⟨R1, R2, R3⟩ := hR
    obtain ⟨σ', ad', w, g1, g2, g3, g4, g5⟩ := e_w59 (T := T) (σ := σ) (s := s) (k := k) (T2 := T2) (f := f) (t := t) (gb := gb) (kd := kd) (dy := T 44 (cM T)) (te := T 43 (cM T)) (g := fun j => T 45 (13 * cM T + j)) (a6 := x_N σ) (a10 := x_N σ) hX hM hJ hQ hA hY R1 (by omega) (by omega) hs hn F ho hg1 hkd (fun q => absurd q c0) (fun _ i hi hq => ⟨fun q => by
        have := hX.wf _ (by rw [hX.k6 i hi hq]; decide)
        omega, fun q => by
        have := hX.wf _ (by rw [(hX.kd i hi hq).1]; decide)
        omega⟩)
    rw [if_neg c0] at g1
    rw [tN_id] at g2
    have NTU : NT (tM T kd (nI o) f t) := hJ.nt
    have fq := fin w _ NTU (x_up_s T 34 (cM T) t) (nwf_to g5 rfl rfl rfl rfl) rfl
    refine ⟨σ', ad', _, _, hg2.trans g1, ?_, g2, g3, g4, rfl, rfl, fun l hl => ?_, ?_, ?_⟩
    · refine t_wrTail hJ hn ?_
      refine r_f c0 ?_
      refine r_st fq ?_
      rfl
    · exact (up_lt hl : x_up T 35 (cM T) 0 35 l = T 35 l)
    · show cM T ≤ ix (nI (cM T + 1))
      rw [ix_nI (by omega)]; omega
    · intro l h1 h2
      have h3 : l < ix (nI (cM T + 1)) := h2
      rw [ix_nI (by omega)] at h3
      have e : l = cM T := by omega
      rw [e]
      show x_up T 35 (cM T) 0 35 (cM T) ≠ 1
      rw [x_up_s]; decide
end PWs
