section PAw
variable {b : Nat} {ad : Ad} {T T2 : Tb} {Q : Qs} {σ : PH} {s k : Nat}
def tF (T : Tb) (a c t : Nat) : Tb := t13 (tW T (nI a) (nI c) (nI t)) (rD T a c t 100)
theorem LW.cg {D E : Nat → Nat → Nat} {W : Nat → Nat → Nat → Prop} (h : LW D W) (e : ∀ i j, i < 10 → j < 10 → E i j = D i j) : LW E W := by
  obtain ⟨h0, h1, h2, h3, h4⟩ := h
  refine ⟨fun i hi => (e i i hi hi).trans (h0 i hi), fun i j hi hj => by rw [e i j hi hj]; exact h1 i j hi hj, fun i l t hw v hv => ?_, fun i j hi hj hne hd => ?_, h4⟩
  · obtain ⟨q1, q2, -⟩ := h4 i l t hw
    rw [e i v q1 hv, e l v q2 hv]; exact h2 i l t hw v hv
  · rw [e i j hi hj] at hd ⊢
    obtain ⟨l, t, hw, q⟩ := h3 i j hi hj hne hd
    exact ⟨l, t, hw, by rw [e l j (h4 i l t hw).2.1 hj]; exact q⟩
theorem tF_D (hJ : JT s T) {a c t i j : Nat} (hi : i < 10) (hj : j < 10) : Dm (tF T a c t) i j = DA (Dm T) a c t i j := by
  have h1 := hJ.lw.2.1 i j hi hj
  have h2 := @DA_le (Dm T) a c t i j
  show ix (rD T a c t 100 (10 * i + j)) = _
  unfold rD mD
  rw [if_pos (by omega), if_pos (by omega), show (10 * i + j) / 10 = i by omega, show (10 * i + j) % 10 = j by omega, ix_nI (by omega)]
theorem JT.newW (h : JT s T) (hn : cW T < 15) {a c t : Nat} (ha : a < cC T) (hc : c < cC T) (hne : a ≠ c) (ht : 1 ≤ t ∧ t ≤ 60) : JT s (tF T a c t) := by
  have hJ := h
  have hC := h.nC
  have LF := h.lw.add (a := a) (c := c) (t := t) (by omega) (by omega) ht
  have hD : ∀ i j, i < 10 → j < 10 → Dm (tF T a c t) i j = DA (Dm T) a c t i j := fun i j hi hj => tF_D hJ hi hj
  have hDle : ∀ i j, i < 10 → j < 10 → Dm T i j < 1000000 → Dm (tF T a c t) i j < 1000000 := fun i j hi hj q => by
    rw [hD i j hi hj]
    have := (@DA_le (Dm T) a c t i j).1
    omega
  have eW : cW (tF T a c t) = cW T + 1 := ix_nI (by omega)
  have lt1 : ∀ i, i < cW (tF T a c t) → i = cW T ∨ i < cW T := fun i hi => by rw [eW] at hi; omega
  have t8 : ∀ i, i < cW T → tF T a c t 8 i = T 8 i := fun i hi => (up_lt hi : x_up T 8 (cW T) (nI a) 8 i = T 8 i)
  have v8 : tF T a c t 8 (cW T) = nI a := x_up_s T 8 (cW T) (nI a)
  have t9 : ∀ i, i < cW T → tF T a c t 9 i = T 9 i := fun i hi => (up_lt hi : x_up T 9 (cW T) (nI c) 9 i = T 9 i)
  have v9 : tF T a c t 9 (cW T) = nI c := x_up_s T 9 (cW T) (nI c)
  have t10 : ∀ i, i < cW T → tF T a c t 10 i = T 10 i := fun i hi => (up_lt hi : x_up T 10 (cW T) (nI t) 10 i = T 10 i)
  have v10 : tF T a c t 10 (cW T) = nI t := x_up_s T 10 (cW T) (nI t)
  obtain ⟨hC, hW, hB, hO, hM, hnw, hpu, hop, hwi, hls, hdg, hrl, hsp, hor, hme, hmq, hmw, hmr, hfC, hfW, hfO, hfM, hkn⟩ := h
  exact ⟨hC, (isN.of (by omega) (by decide)), hB, hO, hM, hnw, hpu, hop, (fun w hw => by
    show isN (tF T a c t 8 w) (cC T) ∧ isN (tF T a c t 9 w) (cC T) ∧ ix (tF T a c t 8 w) ≠ ix (tF T a c t 9 w) ∧ isN (tF T a c t 10 w) 61 ∧ 1 ≤ ix (tF T a c t 10 w) ∧ 0 ≤ T 12 w
    rcases lt1 w hw with e | e
    · rw [e, v8, v9, v10, ix_nI (by omega), ix_nI (by omega), ix_nI (by omega), (hfW _ (Nat.le_refl _)).2]
      exact ⟨isN.of ha (by omega), isN.of hc (by omega), hne, isN.of (by omega) (by decide), ht.1, by decide⟩
    · rw [t8 w e, t9 w e, t10 w e]; exact hwi w e), (fun i hi => by
    show isN (rD T a c t 100 i) 1000001
    have := (mD_bd hJ (a := a) (c := c) (t := t) (i := 100) hi).2.2
    unfold rD
    rw [if_pos hi]
    exact isN.of (by omega) (by decide)), (fun i hi => by rw [hD i i hi hi]; exact LF.1 i hi), (fun w v hw hv => by
    rcases lt1 w hw with e | e
    · rw [e, v8, v9, v10, ix_nI (by omega), ix_nI (by omega), ix_nI (by omega), hD _ _ (by omega) hv, hD _ _ (by omega) hv]
      exact ⟨LF.2.2.1 a c t (Or.inr ⟨rfl, Or.inl ⟨rfl, rfl⟩⟩) v hv, LF.2.2.1 c a t (Or.inr ⟨rfl, Or.inr ⟨rfl, rfl⟩⟩) v hv⟩
    · have x8 := (hwi w e).1.2
      have x9 := (hwi w e).2.1.2
      rw [t8 w e, t9 w e, t10 w e, hD _ _ (by omega) hv, hD _ _ (by omega) hv]
      exact ⟨LF.2.2.1 _ _ _ (Or.inl ⟨w, e, rfl, Or.inl ⟨rfl, rfl⟩⟩) v hv, LF.2.2.1 _ _ _ (Or.inl ⟨w, e, rfl, Or.inr ⟨rfl, rfl⟩⟩) v hv⟩), (fun i j hi hj hij hd => by
    rw [hD i j hi hj] at hd ⊢
    obtain ⟨l, u, hw, q⟩ := LF.2.2.2.1 i j hi hj hij hd
    have hl := (LF.2.2.2.2 i l u hw).2.1
    rcases hw with ⟨w, w1, w2, w3⟩ | ⟨w2, w3⟩
    · refine ⟨w, by omega, ?_⟩
      rw [t8 w w1, t9 w w1, t10 w w1]
      rcases w3 with ⟨q1, q2⟩ | ⟨q1, q2⟩
      · refine Or.inl ⟨q1, ?_⟩
        rw [q2, w2, hD l j hl hj]; exact q
      · refine Or.inr ⟨q1, ?_⟩
        rw [q2, w2, hD l j hl hj]; exact q
    · refine ⟨cW T, by omega, ?_⟩
      rw [v8, v9, v10, ix_nI (by omega), ix_nI (by omega), ix_nI (by omega)]
      rcases w3 with ⟨q1, q2⟩ | ⟨q1, q2⟩
      · refine Or.inl ⟨q1.symm, ?_⟩
        rw [q2, w2] at q
        rw [hD c j (by omega) hj]; exact q
      · refine Or.inr ⟨q1.symm, ?_⟩
        rw [q2, w2] at q
        rw [hD a j (by omega) hj]; exact q), (fun o ho => by
    obtain ⟨q1, q2, q3, q4, q5, q6⟩ := hor o ho
    have x1 := q1.2
    have x2 := q2.2
    exact ⟨q1, q2, q3, q4, q5, hDle (ix (T 18 o)) (ix (T 19 o)) (by omega) (by omega) q6⟩), hme, (fun m hm hq => by
    obtain ⟨q1, q2⟩ := hmq m hm hq
    show isN (T 37 m) (cW (tF T a c t)) ∧ (ix (T 36 m) = ix (tF T a c t 8 (ix (T 37 m))) ∨ ix (T 36 m) = ix (tF T a c t 9 (ix (T 37 m))))
    rw [t8 _ q1.2, t9 _ q1.2, eW]
    exact ⟨q1.mono (by omega), q2⟩), hmw, (fun m hm => by
    obtain ⟨-, -, q3, q4, -⟩ := hme m hm
    have x3 := q3.2
    have x4 := q4.2
    exact ⟨fun z => ⟨hDle (ix (T 36 m)) (ix (T 34 m)) (by omega) (by omega) ((hmr m hm).1 z).1, ((hmr m hm).1 z).2⟩, (hmr m hm).2⟩), hfC, (fun i hi => hfW i (by omega)), hfO, hfM, hkn⟩
theorem JQ.newW (h : JQ T Q) (hJ : JT s T) (hn : cW T < 15) {a c t : Nat} : JQ (tF T a c t) (qw T Q) := by
  have eW : cW (tF T a c t) = cW T + 1 := ix_nI (by omega)
  have t8 : ∀ i, i < cW T → tF T a c t 8 i = T 8 i := fun i hi => (up_lt hi : x_up T 8 (cW T) (nI a) 8 i = T 8 i)
  have t9 : ∀ i, i < cW T → tF T a c t 9 i = T 9 i := fun i hi => (up_lt hi : x_up T 9 (cW T) (nI c) 9 i = T 9 i)
  refine ⟨fun x hx m => ?_, fun x hx => ?_⟩
  · rw [eW] at hx
    by_cases e : x < 2 * cW T
    · rw [show qw T Q x = Q x from if_pos e, h.1 x e m]
      have : en (tF T a c t) x = en T x := by
        unfold en; rw [t8 _ (by omega), t9 _ (by omega)]
      rw [this]
      exact Iff.rfl
    · rw [show qw T Q x = [] from if_neg e]
      refine ⟨fun q => (by cases q), fun q => ?_⟩
      obtain ⟨q1, q2, q3, -⟩ := q
      have z1 : m < cM T := q1
      have z2 : T 35 m = 0 := q2
      have z3 : ix (T 37 m) = x / 2 := q3
      have := (hJ.mq m z1 z2).1.2
      omega
  · rw [eW] at hx
    by_cases e : x < 2 * cW T
    · rw [show qw T Q x = Q x from if_pos e]; exact h.2 x e
    · rw [show qw T Q x = [] from if_neg e]; exact List.Pairwise.nil
theorem e_addWire (h : INX s k b ad T Q T2 σ) (hn : cW T < 15) {F : Nat} (hF : 100 < F) {a c t : Nat} (ha : a < cC T) (hc : c < cC T) (hne : a ≠ c) (ht : 1 ≤ t ∧ t ≤ 60) : ∃ σ' ad', x_rn (mX3_addWire F (some (b + 1)) (some (ad 1 a)) (some (ad 1 c)) (nI t)) σ = some (nI (cW T), σ') ∧ INX s k b ad' (tF T a c t) (qw T Q) T2 σ' := by
  obtain ⟨hX, hM, hJ, hQ, hA, hY, hR⟩ := h
  have hC := hJ.nC
  obtain ⟨σ1, ei, fr, gN, gU, gQ, kw, k1, k2, w0, w1, w2, w3, w4, p0, p1, p2, p3, p4, r0, r1, r2, r3, r4⟩ := e_winit F (nI t) (some (ad 1 a)) (some (ad 1 c)) σ
  have fr1 := fr hX.wf
  have X1 := hX.fr hQ.lt fr1
  have ia : ix (nI a) = a := ix_nI (by omega)
  have ic : ix (nI c) = c := ix_nI (by omega)
  have X2 := X1.newW hJ hn (w := x_N σ) (q1 := x_N σ + 1) (q2 := x_N σ + 2) (a := nI a) (c := nI c) (t := nI t) (fun i hi q => by
      have := hX.wf _ (by rw [hX.k7 i hi]; decide)
      omega) (fun i hi => by
      have := hX.wf _ (by rw [hX.k5 i hi]; decide)
      exact ⟨by omega, by omega⟩) (by omega) kw k1 k2 w0 w1 w2 w3 w4 (by rw [ia]; exact p0) (by rw [ic]; exact p1) p2 p3 p4 (by rw [ic]; exact r0) (by rw [ia]; exact r1) r2 r3 r4
  have A1 : x_up (x_up (x_up ad 7 (cW T) (x_N σ)) 5 (2 * cW T) (x_N σ + 1)) 5 (2 * cW T + 1) (x_N σ + 2) 1 = ad 1 := rfl
  have U7 : ∀ i, i < cW T → x_up (x_up (x_up ad 7 (cW T) (x_N σ)) 5 (2 * cW T) (x_N σ + 1)) 5 (2 * cW T + 1) (x_N σ + 2) 7 i = ad 7 i := fun i hi => (up_lt hi : x_up ad 7 (cW T) (x_N σ) 7 i = ad 7 i)
  have V7 : x_up (x_up (x_up ad 7 (cW T) (x_N σ)) 5 (2 * cW T) (x_N σ + 1)) 5 (2 * cW T + 1) (x_N σ + 2) 7 (cW T) = x_N σ := x_up_s ad 7 (cW T) (x_N σ)
  generalize x_up (x_up (x_up ad 7 (cW T) (x_N σ)) 5 (2 * cW T) (x_N σ + 1)) 5 (2 * cW T + 1) (x_N σ + 2) = ad' at X2 A1 U7 V7
  have hT : T 7 0 = nI (cW T) := hJ.W.1
  have JF := hJ.newW hn ha hc hne ht
  have NW : NT (tW T (nI a) (nI c) (nI t)) := ⟨hJ.C, JF.nt.2.1, JF.nt.2.2.1, hJ.ls⟩
  have eW : cW (tW T (nI a) (nI c) (nI t)) = cW T + 1 := ix_nI (by omega)
  have t8 : ∀ i, i < cW T → tW T (nI a) (nI c) (nI t) 8 i = T 8 i := fun i hi => (up_lt hi : x_up T 8 (cW T) (nI a) 8 i = T 8 i)
  have v8 : tW T (nI a) (nI c) (nI t) 8 (cW T) = nI a := x_up_s T 8 (cW T) (nI a)
  have t9 : ∀ i, i < cW T → tW T (nI a) (nI c) (nI t) 9 i = T 9 i := fun i hi => (up_lt hi : x_up T 9 (cW T) (nI c) 9 i = T 9 i)
  have v9 : tW T (nI a) (nI c) (nI t) 9 (cW T) = nI c := x_up_s T 9 (cW T) (nI c)
  have t10 : ∀ i, i < cW T → tW T (nI a) (nI c) (nI t) 10 i = T 10 i := fun i hi => (up_lt hi : x_up T 10 (cW T) (nI t) 10 i = T 10 i)
  have v10 : tW T (nI a) (nI c) (nI t) 10 (cW T) = nI t := x_up_s T 10 (cW T) (nI t)
  have otn : ∀ i, ot (tW T (nI a) (nI c) (nI t)) (cW T) i = if i = a then some c else if i = c then some a else none := fun i => by
    unfold ot
    rw [v8, v9, ia, ic]
    by_cases q : i = a
    · rw [if_pos q.symm, if_pos q]
    · rw [if_neg (fun z => q z.symm), if_neg q]
      by_cases q2 : i = c
      · rw [if_pos q2.symm, if_pos q2]
      · rw [if_neg (fun z => q2 z.symm), if_neg q2]
  have sto : ∀ i j, stf (tW T (nI a) (nI c) (nI t)) i j (cW T) = stf T i j (cW T) := fun i j => stf_cgn (T := T) (cW T) (fun w hw => ⟨t8 w hw, t9 w hw, t10 w hw⟩)
  have stn : ∀ i j, stf (tW T (nI a) (nI c) (nI t)) i j (cW T + 1) = if ot (tW T (nI a) (nI c) (nI t)) (cW T) i = some j then ns (tW T (nI a) (nI c) (nI t)) (cW T) (stf T i j (cW T)) else stf T i j (cW T) := fun i j => by
    rw [← sto i j]
    rfl
  have slt : ∀ i j v, stf T i j (cW T) = some v → v < cW T := fun i j v q => ((stf_spec (T := T) (i := i) (j := j) (cW T)).2 v q).1
  -- the straight wires before
  have q5 : ∀ i j, i < 10 → j < 10 → x_Q (x_uI (x_uQ σ1 (b + 3) (cW T) (some (x_N σ))) 301 (b + 1) (nI (cW T + 1))) (b + 5) (10 * i + j) = (stf T i j (cW T)).map (ad' 7) := fun i j hi hj => by
    show (if b + 5 = b + 3 ∧ 10 * i + j = cW T then some (x_N σ) else x_Q σ1 (b + 5) (10 * i + j)) = _
    rw [if_neg (by omega), gQ, hY.2 i j hi hj]
    exact map_cg (fun m hm => U7 m (slt i j m hm))
  obtain ⟨σ3, n1, X3, S3, Q3⟩ := e_note X2 NW F (i := a) (j := c) (n := cW T) (by omega) (by omega) (by omega) (o := stf T a c (cW T)) (fun v q => by have := slt _ _ v q; omega) (q5 a c (by omega) (by omega))
  obtain ⟨σ4, n2, X4, S4, Q4⟩ := e_note X3 NW F (i := c) (j := a) (n := cW T) (by omega) (by omega) (by omega) (o := stf T c a (cW T)) (fun v q => by have := slt _ _ v q; omega) (by
    rw [Q3, if_neg (by omega)]; exact q5 c a (by omega) (by omega))
  rw [V7] at n1 n2
  have q6 : ∀ i j, i < 10 → j < 10 → x_Q σ4 (b + 5) (10 * i + j) = (stf (tW T (nI a) (nI c) (nI t)) i j (cW T + 1)).map (ad' 7) := fun i j hi hj => by
    rw [Q4, stn, otn]
    by_cases e1 : i = c ∧ j = a
    · rw [if_pos (by rw [e1.1, e1.2]; exact ⟨rfl, rfl⟩), e1.1, e1.2]
      have : (if c = a then some c else if c = c then some a else none) = some a := by rw [if_neg (fun z => hne z.symm), if_pos rfl]
      rw [if_pos this]
    · rw [if_neg (by omega), Q3]
      by_cases e2 : i = a ∧ j = c
      · rw [if_pos (by rw [e2.1, e2.2]; exact ⟨rfl, rfl⟩), e2.1, e2.2]
        have : (if a = a then some c else if a = c then some a else none) = some c := if_pos rfl
        rw [if_pos this]
      · rw [if_neg (by omega), q5 i j hi hj]
        have : ¬ (if i = a then some c else if i = c then some a else none) = some j := by
          by_cases e3 : i = a
          · rw [if_pos e3]; exact fun z => e2 ⟨e3, (Option.some.inj z).symm⟩
          · rw [if_neg e3]
            by_cases e4 : i = c
            · rw [if_pos e4]; exact fun z => e1 ⟨e4, (Option.some.inj z).symm⟩
            · rw [if_neg e4]; intro z; cases z
        rw [if_neg this]
  -- shortened
  have X4' : RX b ad' (t13 (tW T (nI a) (nI c) (nI t)) (rD T a c t 0)) (qw T Q) σ4 := by
    rw [rD_0 hJ]
    have e : t13 (tW T (nI a) (nI c) (nI t)) (T 13) = tW T (nI a) (nI c) (nI t) := t13_id (U := tW T (nI a) (nI c) (nI t))
    rw [e]; exact X4
  obtain ⟨σ5, sh, X5, s51, s52, s53, s54, s55⟩ := e_shortL hJ (U := tW T (nI a) (nI c) (nI t)) (a := a) (c := c) (t := t) (by omega) (by omega) ht.2 F 100 F 0 σ4 (by omega) hF X4'
  have LF : LW (Dm (tF T a c t)) (WA (WR T) a c t) := (hJ.lw.add (a := a) (c := c) (t := t) (by omega) (by omega) ht).cg (fun i j hi hj => tF_D hJ hi hj)
  have X5' : RX b ad' (tF T a c t) (qw T Q) σ5 := X5
  have eWF : cW (tF T a c t) = cW T + 1 := eW
  obtain ⟨σ6, la, X6, S6, Y6⟩ := e_layL JF.nt LF (fun w x y hw ho => by
      have ho' : ot (tW T (nI a) (nI c) (nI t)) w x = some y := ho
      show WA (WR T) a c t x y (ix (tW T (nI a) (nI c) (nI t) 10 w))
      rw [eWF] at hw
      by_cases e : w = cW T
      · rw [e] at ho' ⊢
        rw [otn] at ho'
        rw [v10, ix_nI (by omega)]
        by_cases q : x = a
        · rw [if_pos q] at ho'; cases ho'; exact Or.inr ⟨rfl, Or.inl ⟨q, rfl⟩⟩
        · rw [if_neg q] at ho'
          by_cases q2 : x = c
          · rw [if_pos q2] at ho'; cases ho'; exact Or.inr ⟨rfl, Or.inr ⟨q2, rfl⟩⟩
          · rw [if_neg q2] at ho'; cases ho'
      · have hw' : w < cW T := by omega
        rw [t10 w hw']
        have : ot T w x = some y := by
          unfold ot at ho' ⊢
          rw [t8 w hw', t9 w hw'] at ho'
          exact ho'
        exact Or.inl ⟨w, hw', rfl, ot_end this⟩) hF 100 F 0 σ5 (by omega) hF X5' (fun i j hi hj => by
      rw [s51, q6 i j hi hj, eWF]
      rw [stf_congr (T := tW T (nI a) (nI c) (nI t)) (T' := tF T a c t) rfl rfl rfl]) (fun x hx => by omega)
  refine ⟨σ6, ad', ?_, X6, ?_, JF, hQ.newW hJ hn, ?_, Y6, ?_⟩
  · have kb1 : x_K (x_nO σ 7) (b + 1) = 4 := by rw [K_nO, if_neg (by have := hR.1; omega)]; exact hX.fK.2.1
    have ka := X2.k1 a ha
    have kc := X2.k1 c hc
    have va := X2.c0 a ha
    have vc := X2.c0 c hc
    rw [A1] at ka kc va vc
    have fit : x_fit σ1 (some (x_N σ)) 7 = true := by
      show (x_K σ1 (x_N σ) == 7 + 1) = true
      rw [kw]; rfl
    have ka3 := X3.k1 a ha
    have kc3 := X3.k1 c hc
    have va3 := X3.c0 a ha
    have vc3 := X3.c0 c hc
    have ka4 := X4.k1 a ha
    have kc4 := X4.k1 c hc
    have va4 := X4.c0 a ha
    have vc4 := X4.c0 c hc
    rw [A1] at ka3 kc3 va3 vc3 ka4 kc4 va4 vc4
    unfold mX3_addWire
    refine q_rI hX.fK.2.1 (hX.z301.trans hT) ?_
    refine q_rR hX.fK.2.1 hX.fR.2.2.2.2.2.1 ?_
    refine q_aL hX.fK.2.2.2.1 hX.fL.2.1 ?_
    refine q_t (nI_lt hn (by decide)) ?_
    refine q_mO ?_
    refine q_st ei ?_
    refine q_rR X1.fK.2.1 X1.fR.2.2.2.2.2.1 ?_
    refine q_sQ rfl X1.fK.2.2.2.1 X1.fL.2.1 hn (by decide) fit ?_
    refine q_rI X1.fK.2.1 (X1.z301.trans hT) ?_
    refine q_wI X1.fK.2.1 ?_
    rw [nI_1]
    refine q_rI ka va ?_
    refine q_rI kc vc ?_
    refine q_st (e_cell _ _ _ _) ?_
    refine q_cl X2.fK.2.1 n1 ?_
    refine q_rI kc3 vc3 ?_
    refine q_rI ka3 va3 ?_
    refine q_st (e_cell _ _ _ _) ?_
    refine q_cl X3.fK.2.1 n2 ?_
    refine q_rI ka4 va4 ?_
    refine q_rI kc4 vc4 ?_
    refine q_cl X4.fK.2.1 sh ?_
    refine q_cl X5.fK.2.1 la ?_
    exact q_e
  · refine S6.2.2.2.2 T2 (s55 T2 (S4.2.2.2.2 T2 (S3.2.2.2.2 T2 ?_)))
    exact ((hM.fr hR.1 fr1).uQ _ _ _).uI _ (by decide)
  · intro m hm hk hq
    have e8 : x_I σ6 807 b = x_I σ 807 b := by
      rw [S6.2.2.1, s54, S4.2.2.1, S3.2.2.1]
      show x_I σ1 807 b = _
      exact (fr1.1 b (by have := hR.1; omega)).2.1 807
    rw [e8]
    exact hA m hm hk hq
  · obtain ⟨R1, R2, R3⟩ := hR
    have eN : x_N σ6 = x_N σ + 3 := by
      rw [S6.1, s52, S4.1, S3.1]
      exact gN
    have eU : x_U σ6 = x_U σ + 15 := by
      rw [S6.2.1, s53, S4.2.1, S3.2.1]
      exact gU
    refine ⟨by omega, ?_, ?_⟩
    · show x_N σ6 ≤ b + 53 + cC T + 3 * cW (tF T a c t) + cO T + 3 * cM T
      omega
    · show x_U σ6 ≤ 40000 + 6 * cC T + 15 * cW (tF T a c t) + 13 * cO T + 28 * cM T
      omega
end PAw
