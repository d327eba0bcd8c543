section PS
variable {b : Nat} {ad : Ad} {T T2 : Tb} {Q : Qs} {σ : PH} {s k : Nat}
theorem JQ.del {T' : Tb} (h : JQ T Q) (hN : NT T) {m κ : Nat} {L : List Nat} (hk : κ < 2 * cW T) (e : Q κ = m :: L) (hW : cW T' = cW T) (hM : cM T' = cM T) (he : ∀ l, l ≠ m → T' 35 l = T 35 l ∧ T' 36 l = T 36 l ∧ T' 37 l = T 37 l) (h38 : T' 38 = T 38) (hen : ∀ x, en T' x = en T x) (m35 : T' 35 m ≠ 0) : JQ T' (qd Q κ L) := by
  have nd := h.nd hk
  rw [e] at nd
  have nm := (List.nodup_cons.mp nd).1
  refine ⟨fun x hx l => ?_, fun x hx => ?_⟩
  · rw [hW] at hx
    rw [hen, hM]
    by_cases c : l = m
    · subst c
      refine ⟨fun q => ?_, fun q => absurd q.2.1 m35⟩
      exfalso
      by_cases c2 : x = κ
      · subst c2; rw [qd_s] at q; exact nm q
      · rw [qd_n c2] at q
        exact h.dis hN hx hk c2 (by rw [e]; simp) q
    · obtain ⟨g1, g2, g3⟩ := he l c
      rw [g1, g2, g3, ← h.1 x hx l]
      by_cases c2 : x = κ
      · subst c2; rw [qd_s, e]; simp [c]
      · rw [qd_n c2]
  · rw [hW] at hx
    rw [h38]
    by_cases c2 : x = κ
    · subst c2
      rw [qd_s]
      have := h.2 x hx
      rw [e] at this
      exact (List.pairwise_cons.mp this).2
    · rw [qd_n c2]; exact h.2 x hx
theorem en_sw (hN : NT T) {κ : Nat} (hk : κ < 2 * cW T) : ot T (κ / 2) (en T κ) = some (en T (sw κ)) := by
  have hn := (hN.2.2.1 (κ / 2) (by omega)).2.2.1
  unfold ot en sw
  by_cases c : κ % 2 = 0
  · simp only [c, if_true]
    rw [if_neg (by omega), show (κ + 1) / 2 = κ / 2 by omega]
  · simp only [c, if_false, hn, if_true]
    rw [if_pos (by omega), show (κ - 1) / 2 = κ / 2 by omega]
def ts' (T : Tb) (m : Nat) (v p : Int32) : Tb := x_up (x_up (x_up T 35 m 1) 39 m v) 36 m p
theorem JT.send (h : JT s T) {m κ : Nat} (hm : m < cM T) (hk : κ < 2 * cW T) (h0 : T 35 m = 0) (hq : ix (T 36 m) = en T κ) : JT s (ts' T m (T 0 0 + T 10 (κ / 2)) (nI (en T (sw κ)))) := by
  have hC := h.nC
  have es : en T (sw κ) < cC T := en_lt h (sw_lt hk)
  have ek : en T κ < cC T := en_lt h hk
  have hnow := h.nw
  have hnb := hnow.2
  obtain ⟨-, -, -, w10, w1, -⟩ := h.wi (κ / 2) (by omega)
  have w10b := w10.2
  have ev : T 0 0 + T 10 (κ / 2) = nI (ix (T 0 0) + ix (T 10 (κ / 2))) := by rw [← nI_add, ← hnow.1, ← w10.1]
  have iv : ix (T 0 0 + T 10 (κ / 2)) = ix (T 0 0) + ix (T 10 (κ / 2)) := by rw [ev, ix_nI (by omega)]
  have fin : Dm T (en T (sw κ)) (ix (T 34 m)) < 1000000 := by
    have m34 := (h.me m hm).2.2.1.2
    have q1 := ((h.mr m hm).1 (by rw [h0]; decide)).1
    rw [hq] at q1
    have q2 := Dm_le h (by omega) (by omega) q1
    have rl := h.rl (κ / 2) (ix (T 34 m)) (by omega) (by omega)
    unfold en sw at *
    by_cases c : κ % 2 = 0
    · simp only [c, if_true] at q1 q2 ⊢
      rw [if_neg (by omega), show (κ + 1) / 2 = κ / 2 by omega]
      omega
    · simp only [c, if_false] at q1 q2 ⊢
      rw [if_pos (by omega), show (κ - 1) / 2 = κ / 2 by omega]
      omega
  obtain ⟨hC, hW, hB, hO, hM, hnw, hpu, hop, hwi, hls, hdg, hrl, hsp, hor, hme, hmq, hmw, hmr, hfC, hfW, hfO, hfM, hkn⟩ := h
  exact ⟨hC, hW, hB, hO, hM, hnw, hpu, hop, hwi, hls, hdg, hrl, hsp, hor, (fun i hi => by
    obtain ⟨g1, g2, g3, g4, g5, g6⟩ := hme i hi
    refine ⟨g1, g2, g3, ?_, g5, ?_⟩
    · show isN (x_up T 36 m (nI (en T (sw κ))) 36 i) (cC T)
      by_cases e : i = m
      · subst e; rw [x_up_s]; exact isN.of es (by omega)
      · rw [x_up_n _ _ _ _ (fun q => e q.2)]; exact g4
    · show x_up T 35 m 1 35 i = 0 ∨ x_up T 35 m 1 35 i = 1 ∨ x_up T 35 m 1 35 i = 2
      by_cases e : i = m
      · rw [e, x_up_s]; exact Or.inr (Or.inl rfl)
      · rw [x_up_n _ _ _ _ (fun q => e q.2)]; exact g6), (fun i hi hq => by
    have hq' : x_up T 35 m 1 35 i = 0 := hq
    show isN (T 37 i) (cW T) ∧ (ix (x_up T 36 m (nI (en T (sw κ))) 36 i) = ix (T 8 (ix (T 37 i))) ∨ ix (x_up T 36 m (nI (en T (sw κ))) 36 i) = ix (T 9 (ix (T 37 i))))
    by_cases e : i = m
    · rw [e, x_up_s] at hq'; exact absurd hq' (by decide)
    · rw [x_up_n _ _ _ _ (fun q => e q.2)] at hq' ⊢; exact hmq i hi hq'), (fun i hi hq => by
    have hq' : x_up T 35 m 1 35 i = 1 := hq
    show isN (x_up T 39 m (T 0 0 + T 10 (κ / 2)) 39 i) (ix (T 0 0) + 61) ∧ ix (T 0 0) ≤ ix (x_up T 39 m (T 0 0 + T 10 (κ / 2)) 39 i)
    by_cases e : i = m
    · rw [e, x_up_s, iv]
      exact ⟨by rw [ev]; exact isN.of (by omega) (by omega), by omega⟩
    · rw [x_up_n _ _ _ _ (fun q => e q.2)] at hq' ⊢; exact hmw i hi hq'), (fun i hi => by
    show (x_up T 35 m 1 35 i ≠ 2 → Dm T (ix (x_up T 36 m (nI (en T (sw κ))) 36 i)) (ix (T 34 i)) < 1000000 ∧ T 40 i = -1) ∧ (x_up T 35 m 1 35 i = 2 → T 40 i ≠ -1)
    by_cases e : i = m
    · subst e
      rw [x_up_s, x_up_s, ix_nI (by omega)]
      exact ⟨fun _ => ⟨fin, ((hmr i hi).1 (by rw [h0]; decide)).2⟩, fun q => absurd q (by decide)⟩
    · rw [x_up_n _ _ _ _ (fun q => e q.2), x_up_n _ _ _ _ (fun q => e q.2)]; exact hmr i hi), hfC, hfW, hfO, hfM, hkn⟩
theorem x_min_le {x y : Int32} : x_min x y ≤ x ∧ x_min x y ≤ y := by
  unfold x_min
  by_cases c : y < x
  · rw [if_pos c]
    rw [i_lt] at c
    rw [i_le, i_le]; omega
  · rw [if_neg c]
    have := i_nlt.mp c
    exact ⟨by rw [i_le]; omega, this⟩
theorem lt_min {a x y : Int32} (h1 : a < x) (h2 : a < y) : a < x_min x y := by
  unfold x_min; split <;> assumption
theorem i_le_tr {a c d : Int32} (h1 : a ≤ c) (h2 : c ≤ d) : a ≤ d := by
  rw [i_le] at *; omega
theorem INX.send (h : INX s k b ad T Q T2 σ) (F : Nat) {m κ : Nat} {L : List Nat} (hk : κ < 2 * cW T) (hmt : Q κ = m :: L) (hn : T 0 0 < x_I σ 807 b) : ∃ σ', x_rn (mX8_sendFirst F (some b) (some (ad 5 κ)) (T 0 0 + T 10 (κ / 2))) σ = some ((), σ') ∧ INX s k b ad (ts' T m (T 0 0 + T 10 (κ / 2)) (nI (en T (sw κ)))) (qd Q κ L) T2 σ' ∧ T 0 0 < x_I σ' 807 b := by
  obtain ⟨hX, hM, hJ, hQ, hA, hY, hR⟩ := h
  have hmQ : m ∈ Q κ := by rw [hmt]; simp
  obtain ⟨hm, h0, -, h36⟩ := (hQ.1 κ hk m).mp hmQ
  have es : en T (sw κ) < cC T := en_lt hJ (sw_lt hk)
  have hC := hJ.nC
  obtain ⟨σ1, e1, X1, S1⟩ := e_take hX F hm h0 hk hmt hQ.lt (fun x hx hxk => hQ.dis hJ.nt hx hk hxk hmQ) (hQ.nd hk)
  obtain ⟨σ2, e2, X2, S2⟩ := e_enter X1 F (m := m) hm (x_up_s _ _ _ _) (T 0 0 + T 10 (κ / 2)) (nI (en T (sw κ)))
  rw [ix_nI (by omega)] at e2
  have S := S1.trans S2
  have k1 := X2.fK.1
  have w10 := (hJ.wi (κ / 2) (by omega)).2.2.2.1
  have w1 := (hJ.wi (κ / 2) (by omega)).2.2.2.2.1
  have lv : T 0 0 < T 0 0 + T 10 (κ / 2) := by
    have ev : T 0 0 + T 10 (κ / 2) = nI (ix (T 0 0) + ix (T 10 (κ / 2))) := by rw [← nI_add, ← hJ.nw.1, ← w10.1]
    have q1 := hJ.nw.2
    have q2 := w10.2
    rw [ev, i_lt, i_nI (by omega), hJ.nw.ti (by omega)]
    omega
  have i8 : x_I σ2 807 b = x_I σ 807 b := S.2.2.2.1 b
  refine ⟨_, ?_, ⟨?_, (S.2.2.2.2 b T2 hM).uI (f := 807) (a := b) (x_min (x_I σ2 807 b) (T 0 0 + T 10 (κ / 2))) (by decide), hJ.send hm hk h0 h36, ?_, ?_, hY.congr rfl rfl rfl rfl rfl S.1, ?_⟩, ?_⟩
  · unfold mX8_sendFirst
    refine q_cl (hX.k5 _ hk) e1 ?_
    refine q_f n_some ?_
    refine q_rR (X1.k5 _ hk) (X1.q0 _ hk).2 ?_
    refine q_cl (X1.k2 _ hm) e2 ?_
    refine q_rI k1 rfl ?_
    refine q_wI k1 ?_
    exact q_e
  · rw [x_up_up] at X2
    exact X2.na b _
  · refine hQ.del hJ.nt hk hmt rfl rfl (fun l hl => ⟨?_, ?_, rfl⟩) rfl (fun _ => rfl) ?_
    · exact x_up_n T 35 m 1 (fun q => hl q.2)
    · exact x_up_n T 36 m (nI (en T (sw κ))) (fun q => hl q.2)
    · show x_up T 35 m 1 35 m ≠ 0
      rw [x_up_s]; decide
  · intro i hi hik hq
    have hq' : x_up T 35 m 1 35 i = 1 := hq
    show (if 807 = 807 ∧ b = b then x_min (x_I σ2 807 b) (T 0 0 + T 10 (κ / 2)) else x_I σ2 807 b) ≤ x_up T 39 m (T 0 0 + T 10 (κ / 2)) 39 i
    rw [if_pos ⟨rfl, rfl⟩]
    by_cases e : i = m
    · rw [e, x_up_s]; exact x_min_le.2
    · rw [x_up_n _ _ _ _ (fun q => e q.2)] at hq' ⊢
      rw [i8]
      exact i_le_tr x_min_le.1 (hA i hi hik hq')
  · obtain ⟨g1, g2, g3⟩ := hR
    refine ⟨?_, ?_, ?_⟩
    · show _ ≤ x_N σ2
      rw [S.2.1]; exact g1
    · show x_N σ2 ≤ _
      rw [S.2.1]; exact g2
    · show x_U σ2 ≤ _
      rw [S.2.2.1]; exact g3
  · show T 0 0 < (if 807 = 807 ∧ b = b then x_min (x_I σ2 807 b) (T 0 0 + T 10 (κ / 2)) else x_I σ2 807 b)
    rw [if_pos ⟨rfl, rfl⟩, i8]
    exact lt_min hn lv
/-! the first of a queue, as the reference looks for it -/
def ff (T : Tb) (w a : Nat) : Nat → Option Nat
  | 0 => none
  | n + 1 => if T 35 n = 0 ∧ ix (T 37 n) = w ∧ ix (T 36 n) = a then (match ff T w a n with
    | none => some n
    | some v => if ix (T 38 n) < ix (T 38 v) then some n else some v) else ff T w a n
theorem ff_spec {w a : Nat} : ∀ n, (ff T w a n = none → ∀ l, l < n → ¬ (T 35 l = 0 ∧ ix (T 37 l) = w ∧ ix (T 36 l) = a)) ∧ (∀ v, ff T w a n = some v → v < n ∧ (T 35 v = 0 ∧ ix (T 37 v) = w ∧ ix (T 36 v) = a) ∧ ∀ l, l < n → (T 35 l = 0 ∧ ix (T 37 l) = w ∧ ix (T 36 l) = a) → ix (T 38 v) ≤ ix (T 38 l)) := by
  intro n
  induction n with
  | zero => exact ⟨fun _ l hl => absurd hl (by omega), fun v h => by cases h⟩
  | succ n ih =>
    simp only [ff]
    by_cases c : T 35 n = 0 ∧ ix (T 37 n) = w ∧ ix (T 36 n) = a
    · rw [if_pos c]
      cases e : ff T w a n with
      | none =>
        have ih1 := ih.1 e
        refine ⟨fun h => (by cases h), fun v h => ?_⟩
        cases h
        refine ⟨by omega, c, fun l hl hc => ?_⟩
        by_cases q : l = n
        · rw [q]; exact Nat.le_refl _
        · exact absurd hc (ih1 l (by omega))
      | some v =>
        obtain ⟨h1, h2, h3⟩ := ih.2 v e
        by_cases c2 : ix (T 38 n) < ix (T 38 v)
        · simp only [c2, if_true]
          refine ⟨fun h => (by cases h), fun u h => ?_⟩
          cases h
          refine ⟨by omega, c, fun l hl hc => ?_⟩
          by_cases q : l = n
          · rw [q]; exact Nat.le_refl _
          · have := h3 l (by omega) hc; omega
        · simp only [c2, if_false]
          refine ⟨fun h => (by cases h), fun u h => ?_⟩
          cases h
          refine ⟨by omega, h2, fun l hl hc => ?_⟩
          by_cases q : l = n
          · rw [q]; omega
          · exact h3 l (by omega) hc
    · rw [if_neg c]
      refine ⟨fun e l hl hc => ?_, fun v e => ?_⟩
      · by_cases q : l = n
        · exact c (q ▸ hc)
        · exact ih.1 e l (by omega) hc
      · obtain ⟨h1, h2, h3⟩ := ih.2 v e
        refine ⟨by omega, h2, fun l hl hc => ?_⟩
        by_cases q : l = n
        · exact absurd (q ▸ hc) c
        · exact h3 l (by omega) hc
theorem ff_head (hQ : JQ T Q) {κ : Nat} (hk : κ < 2 * cW T) : ff T (κ / 2) (en T κ) (cM T) = (Q κ).head? := by
  have sp := ff_spec (T := T) (w := κ / 2) (a := en T κ) (cM T)
  cases e : ff T (κ / 2) (en T κ) (cM T) with
  | none =>
    have sp1 := sp.1 e
    cases q : Q κ with
    | nil => rfl
    | cons m L =>
      have := (hQ.1 κ hk m).mp (by rw [q]; simp)
      exact absurd this.2 (sp1 m this.1)
  | some v =>
    obtain ⟨h1, h2, h3⟩ := sp.2 v e
    have hv := (hQ.1 κ hk v).mpr ⟨h1, h2⟩
    cases q : Q κ with
    | nil => rw [q] at hv; cases hv
    | cons m L =>
      have hm := (hQ.1 κ hk m).mp (by rw [q]; simp)
      have le := h3 m hm.1 hm.2
      have so := hQ.2 κ hk
      rw [q] at hv so
      rw [List.pairwise_cons] at so
      rcases List.mem_cons.mp hv with r | r
      · rw [r]; rfl
      · have := so.1 v r; omega
theorem t_firstL (j : JT s T) (hs : s ≤ 1000) (F : Nat) {w a : Nat} (hw : w < cW T) (ha : a < cC T) : ∀ (k n i : Nat), i + k = cM T → k < n → tX9_firstOf_5 F n (nI w) (nI a) (wv (ff T w a i)) (nI i) T = some (wv (ff T w a (cM T)), T) := by
  have hM := j.nM
  have hC := j.nC
  have hW := j.nW
  have hT : T 30 0 = nI (cM T) := j.M.1
  have b46 := j.pu.2
  have b0 := j.nw.2
  intro k
  induction k with
  | zero =>
    intro n i hi hn
    obtain ⟨n, rfl⟩ : ∃ m, n = m + 1 := ⟨n - 1, by omega⟩
    have : i = cM T := by omega
    subst this
    rw [tX9_firstOf_5]
    refine r_g rfl ?_
    refine r_t (by rw [hT]; exact nI_le (Nat.le_refl _) (by omega)) ?_
    rfl
  | succ k ih =>
    intro n i hi hn
    obtain ⟨n, rfl⟩ : ∃ m, n = m + 1 := ⟨n - 1, by omega⟩
    have hio : i < cM T := by omega
    have hi2 : i < 1000 := by omega
    obtain ⟨-, -, -, j36, j38, -⟩ := j.me _ hio
    have e2 := ih n (i + 1) (by omega) (by omega)
    rw [tX9_firstOf_5]
    refine r_g rfl ?_
    refine r_f (by rw [hT]; exact nI_ge hio (by omega)) ?_
    refine r_a rfl hi2 rfl ?_
    by_cases c1 : T 35 i = 0
    case neg =>
      have e4 : ff T w a (i + 1) = ff T w a i := if_neg (fun q => c1 q.1)
      rw [e4] at e2
      refine r_f c1 ?_
      refine r_q ?_
      rw [nI_1]
      exact e2
    have j37 := (j.mq i hio c1).1
    refine r_t c1 ?_
    refine r_a rfl hi2 rfl ?_
    by_cases c2 : ix (T 37 i) = w
    case neg =>
      have e4 : ff T w a (i + 1) = ff T w a i := if_neg (fun q => c2 q.2.1)
      rw [e4] at e2
      refine r_f (fun q => c2 (by rw [q, ix_nI (by omega)])) ?_
      refine r_q ?_
      rw [nI_1]
      exact e2
    refine r_t (by rw [← c2]; exact j37.1) ?_
    refine r_a rfl hi2 rfl ?_
    by_cases c3 : ix (T 36 i) = a
    case neg =>
      have e4 : ff T w a (i + 1) = ff T w a i := if_neg (fun q => c3 q.2.2)
      rw [e4] at e2
      refine r_f (fun q => c3 (by rw [q, ix_nI (by omega)])) ?_
      refine r_q ?_
      rw [nI_1]
      exact e2
    have cc : T 35 i = 0 ∧ ix (T 37 i) = w ∧ ix (T 36 i) = a := ⟨c1, c2, c3⟩
    refine r_t (by rw [← c3]; exact j36.1) ?_
    cases e5 : ff T w a i with
    | none =>
      have e4 : ff T w a (i + 1) = some i := by
        show (if _ then _ else _) = _
        rw [if_pos cc, e5]
      rw [e4] at e2
      refine r_t rfl ?_
      refine r_q ?_
      rw [nI_1]
      exact e2
    | some v =>
      have sp := ff_spec (T := T) (w := w) (a := a) i
      have hv := (sp.2 v e5).1
      have hv2 : v < 1000 := by omega
      obtain ⟨-, -, -, -, v38, -⟩ := j.me v (by omega)
      have le : (T 38 v ≤ T 38 i) ↔ ¬ ix (T 38 i) < ix (T 38 v) := by
        rw [i_le, v38.ti (by omega), j38.ti (by omega)]
        omega
      refine r_f (wv_n (by omega)) ?_
      refine r_a rfl hi2 rfl ?_
      refine r_a rfl hv2 rfl ?_
      by_cases c6 : ix (T 38 i) < ix (T 38 v)
      · have e4 : ff T w a (i + 1) = some i := by
          show (if _ then _ else _) = _
          rw [if_pos cc, e5]
          exact if_pos c6
        rw [e4] at e2
        refine r_f (fun q => le.mp q c6) ?_
        refine r_q ?_
        rw [nI_1]
        exact e2
      · have e4 : ff T w a (i + 1) = some v := by
          show (if _ then _ else _) = _
          rw [if_pos cc, e5]
          exact if_neg c6
        rw [e4] at e2
        refine r_t (le.mpr c6) ?_
        refine r_q ?_
        rw [nI_1]
        exact e2
theorem t_firstOf (j : JT s T) (hs : s ≤ 1000) (hQ : JQ T Q) {F : Nat} (hF : 1000 < F) {κ : Nat} (hk : κ < 2 * cW T) : tX9_firstOf F (nI (κ / 2)) (nI (en T κ)) T = some (wv (Q κ).head?, T) := by
  have hM := j.nM
  have := t_firstL j hs F (w := κ / 2) (a := en T κ) (by omega) (en_lt j hk) (cM T) F 0 (by omega) (by omega)
  rw [ff_head hQ hk] at this
  exact this
/-- both let the first of a queue set out -/
theorem INX.sets (h : INX s k b ad T Q T2 σ) (hs : s ≤ 1000) {F : Nat} (hF : 1000 < F) {κ : Nat} (hk : κ < 2 * cW T) (hn : T 0 0 < x_I σ 807 b) : ∃ σ' T' Q', x_rn (mX8_sendFirst F (some b) (some (ad 5 κ)) (T 0 0 + T 10 (κ / 2))) σ = some ((), σ') ∧ tX9_setsOut F (nI (κ / 2)) (nI (en T κ)) T = some ((), T') ∧ INX s k b ad T' Q' T2 σ' ∧ T 0 0 < x_I σ' 807 b ∧ (T' 0 = T 0 ∧ T' 7 = T 7 ∧ T' 8 = T 8 ∧ T' 9 = T 9 ∧ T' 10 = T 10 ∧ T' 11 = T 11 ∧ T' 12 = T 12) := by
  have hJ := h.j
  have hQ := h.2.2.2.1
  have tf := t_firstOf hJ hs hQ hF hk
  have hC := hJ.nC
  have hW := hJ.nW
  have hM := hJ.nM
  have ek := en_lt hJ hk
  have es : en T (sw κ) < cC T := en_lt hJ (sw_lt hk)
  cases e : Q κ with
  | nil =>
    refine ⟨σ, T, Q, ?_, ?_, h, hn, rfl, rfl, rfl, rfl, rfl, rfl, rfl⟩
    · unfold mX8_sendFirst
      refine q_cl (h.fx.k5 _ hk) (e_take0 h.fx F hk e) ?_
      refine q_t rfl ?_
      exact q_e
    · rw [e] at tf
      unfold tX9_setsOut
      refine r_st tf ?_
      refine r_t rfl ?_
      rfl
  | cons m L =>
    obtain ⟨σ', g1, g2, g3⟩ := h.send F hk e hn
    have hm := ((hQ.1 κ hk m).mp (by rw [e]; simp)).1
    have hm2 : m < 1000 := by omega
    have hw2 : κ / 2 < 15 := by omega
    refine ⟨σ', _, _, g1, ?_, g2, g3, rfl, rfl, rfl, rfl, rfl, rfl, rfl⟩
    rw [e] at tf
    have N' : NT (x_up (x_up T 35 m 1) 39 m (T 0 0 + T 10 (κ / 2))) := hJ.nt
    have to := t_otherEnd N' F (w := κ / 2) (i := en T κ) (show κ / 2 < cW T by omega) (by omega)
    rw [show ot (x_up (x_up T 35 m 1) 39 m (T 0 0 + T 10 (κ / 2))) (κ / 2) (en T κ) = some (en T (sw κ)) from en_sw hJ.nt hk] at to
    unfold tX9_setsOut
    refine r_st tf ?_
    refine r_f (wv_n (by omega)) ?_
    refine r_s rfl hm2 ?_
    refine r_g rfl ?_
    refine r_a rfl hw2 rfl ?_
    refine r_s rfl hm2 ?_
    refine r_st to ?_
    refine r_s rfl hm2 ?_
    rfl
theorem e_isDown (h : RX b ad T Q σ) (F : Nat) {w : Nat} (hw : w < cW T) (x : Int32) : x_rn (mX7_isDown F (some (ad 7 w)) x) σ = some (bi (T 11 w ≤ x ∧ x < T 12 w), σ) := by
  have kw := h.k7 _ hw
  unfold mX7_isDown
  refine q_rI kw (h.w3 _ hw) ?_
  by_cases c1 : x < T 11 w
  · rw [bi_z (fun q => i_nle.mpr c1 q.1)]
    exact q_t c1 q_e
  · refine q_f c1 ?_
    refine q_rI kw (h.w4 _ hw) ?_
    by_cases c2 : T 12 w ≤ x
    · rw [bi_z (fun q => i_nlt.mpr c2 q.2)]
      exact q_t c2 q_e
    · rw [show bi (T 11 w ≤ x ∧ x < T 12 w) = 1 from if_pos ⟨i_nlt.mp c1, i_nle.mp c2⟩]
      exact q_f c2 q_e
theorem L_send {F : Nat} (hs : s ≤ 1000) (hF : 1000 < F) : ∀ (l n n' i : Nat) (T : Tb) (Q : Qs) (σ : PH), i + l = cW T → l < n → l < n' → INX s k b ad T Q T2 σ → T 0 0 < x_I σ 807 b → ∃ σ' T' Q', x_rn (mX8_sendOut_2 F n (some b) (nI i)) σ = some ((), σ') ∧ tX9_minute_80 F n' (nI i) T = some ((), x_up T' 0 0 (T' 0 0 + 1)) ∧ INX s k b ad T' Q' T2 σ' ∧ T 0 0 < x_I σ' 807 b ∧ T' 0 0 = T 0 0 := by
  intro l
  induction l with
  | zero =>
    intro n n' i T Q σ hi hn hn' h hh
    obtain ⟨n, rfl⟩ : ∃ m, n = m + 1 := ⟨n - 1, by omega⟩
    obtain ⟨n', rfl⟩ : ∃ m, n' = m + 1 := ⟨n' - 1, by omega⟩
    have hJ := h.j
    have hX := h.fx
    have hW := hJ.nW
    have hT : T 7 0 = nI (cW T) := hJ.W.1
    have : i = cW T := by omega
    subst this
    refine ⟨σ, T, Q, ?_, ?_, h, hh, rfl⟩
    · rw [mX8_sendOut_2]
      refine q_rR hX.fK.1 hX.fR.1 ?_
      refine q_rI hX.fK.2.1 hX.z301 ?_
      refine q_t (by rw [hT]; exact nI_le (Nat.le_refl _) (by omega)) ?_
      exact q_e
    · rw [tX9_minute_80]
      refine r_g rfl ?_
      refine r_t (by rw [hT]; exact nI_le (Nat.le_refl _) (by omega)) ?_
      refine r_g rfl ?_
      refine r_p ?_
      rfl
  | succ l ih =>
    intro n n' i T Q σ hi hn hn' h hh
    obtain ⟨n, rfl⟩ : ∃ m, n = m + 1 := ⟨n - 1, by omega⟩
    obtain ⟨n', rfl⟩ : ∃ m, n' = m + 1 := ⟨n' - 1, by omega⟩
    have hJ := h.j
    have hX := h.fx
    have hW := hJ.nW
    have hT : T 7 0 = nI (cW T) := hJ.W.1
    have hio : i < cW T := by omega
    have hi2 : i < 15 := by omega
    have e1 := e_findWire hX hJ F (nI i)
    rw [fd_some (in_nI hJ.W (by omega) hio), ix_nI (by omega)] at e1
    obtain ⟨w8, w9, -, w10, -, w12⟩ := hJ.wi i hio
    have ed := e_isDown hX F hio (T 0 0)
    have eq12 : (T 0 0 ≤ T 12 i - 1) ↔ (T 0 0 < T 12 i) := by
      have l1 : (1 : Int32).toInt = 1 := rfl
      have l0 : (0 : Int32).toInt = 0 := rfl
      rw [i_le, l0] at w12
      have := (T 12 i).toInt_lt
      rw [i_le, i_lt, Int32.toInt_sub, l1]
      have : ((T 12 i).toInt - 1).bmod (2 ^ 32) = (T 12 i).toInt - 1 := by apply Int.bmod_eq_of_le <;> omega
      rw [this]; omega
    have c8 : nI (en T (2 * i)) = T 8 i := by
      unfold en; rw [if_pos (by omega), show 2 * i / 2 = i by omega]; exact w8.1.symm
    have c9 : nI (en T (2 * i + 1)) = T 9 i := by
      unfold en; rw [if_neg (by omega), show (2 * i + 1) / 2 = i by omega]; exact w9.1.symm
    by_cases c : T 11 i ≤ T 0 0 ∧ T 0 0 < T 12 i
    · obtain ⟨σ', T', Q', g1, g2, g3, g4, g5⟩ := ih n n' (i + 1) T Q σ (by omega) (by omega) (by omega) h hh
      refine ⟨σ', T', Q', ?_, ?_, g3, g4, g5⟩
      · rw [mX8_sendOut_2]
        refine q_rR hX.fK.1 hX.fR.1 ?_
        refine q_rI hX.fK.2.1 hX.z301 ?_
        refine q_f (by rw [hT]; exact nI_ge hio (by omega)) ?_
        refine q_rR hX.fK.1 hX.fR.1 ?_
        refine q_cl hX.fK.2.1 e1 ?_
        refine q_f n_some ?_
        refine q_rI hX.fK.1 hX.z806 ?_
        refine q_cl (hX.k7 _ hio) ed ?_
        refine q_f (bi_n c) ?_
        refine q_p ?_
        rw [nI_1]
        exact g1
      · rw [tX9_minute_80]
        refine r_g rfl ?_
        refine r_f (by rw [hT]; exact nI_ge hio (by omega)) ?_
        refine r_g rfl ?_
        refine r_a rfl hi2 rfl ?_
        refine r_a rfl hi2 rfl ?_
        refine r_st (t_in _ _ _ _ _) ?_
        refine r_f (bi_n ⟨c.1, eq12.mpr c.2⟩) ?_
        refine r_q ?_
        rw [nI_1]
        exact g2
    · obtain ⟨σ1, T1, Q1, a1, a2, a3, a4, a0, a7, a8, a9, a10, -, -⟩ := h.sets hs hF (κ := 2 * i) (by omega) hh
      have cw1 : cW T1 = cW T := by unfold cW; rw [a7]
      have en1 : en T1 (2 * i + 1) = en T (2 * i + 1) := by unfold en; rw [a8, a9]
      have z1 : T1 0 0 = T 0 0 := by rw [a0]
      obtain ⟨σ2, T2', Q2, b1, b2, b3, b4, b0, b7, b8, b9, b10, -, -⟩ := a3.sets hs hF (κ := 2 * i + 1) (by omega) (by rw [z1]; exact a4)
      have cw2 : cW T2' = cW T := by unfold cW; rw [b7, a7]
      have z2 : T2' 0 0 = T 0 0 := by rw [b0, a0]
      rw [show 2 * i / 2 = i by omega, c8] at a2
      rw [show (2 * i + 1) / 2 = i by omega, en1, c9] at b2
      rw [show 2 * i / 2 = i by omega] at a1
      rw [show (2 * i + 1) / 2 = i by omega, z1, a10] at b1
      obtain ⟨σ', T', Q', g1, g2, g3, g4, g5⟩ := ih n n' (i + 1) T2' Q2 σ2 (by omega) (by omega) (by omega) b3 (by rw [z2, ← z1]; exact b4)
      have hX1 := a3.fx
      have hio1 : i < cW T1 := by omega
      refine ⟨σ', T', Q', ?_, ?_, g3, by rw [← z2]; exact g4, g5.trans z2⟩
      · rw [mX8_sendOut_2]
        refine q_rR hX.fK.1 hX.fR.1 ?_
        refine q_rI hX.fK.2.1 hX.z301 ?_
        refine q_f (by rw [hT]; exact nI_ge hio (by omega)) ?_
        refine q_rR hX.fK.1 hX.fR.1 ?_
        refine q_cl hX.fK.2.1 e1 ?_
        refine q_f n_some ?_
        refine q_rI hX.fK.1 hX.z806 ?_
        refine q_cl (hX.k7 _ hio) ed ?_
        refine q_t (bi_z c) ?_
        refine q_rR (hX.k7 _ hio) (hX.w0 _ hio).1 ?_
        refine q_rI hX.fK.1 hX.z806 ?_
        refine q_rI (hX.k7 _ hio) (hX.w2 _ hio) ?_
        refine q_cl hX.fK.1 a1 ?_
        refine q_rR (hX1.k7 _ hio1) (hX1.w0 _ hio1).2 ?_
        refine q_rI hX1.fK.1 (hX1.z806.trans z1) ?_
        refine q_rI (hX1.k7 _ hio1) ((hX1.w2 _ hio1).trans (by rw [a10])) ?_
        refine q_cl hX1.fK.1 b1 ?_
        refine q_p ?_
        rw [nI_1]
        exact g1
      · rw [tX9_minute_80]
        refine r_g rfl ?_
        refine r_f (by rw [hT]; exact nI_ge hio (by omega)) ?_
        refine r_g rfl ?_
        refine r_a rfl hi2 rfl ?_
        refine r_a rfl hi2 rfl ?_
        refine r_st (t_in _ _ _ _ _) ?_
        refine r_t (bi_z (fun q => c ⟨q.1, eq12.mp q.2⟩)) ?_
        refine r_a rfl hi2 rfl ?_
        refine r_st a2 ?_
        refine r_a rfl hi2 (by rw [a9]) ?_
        refine r_st b2 ?_
        refine r_q ?_
        rw [nI_1]
        exact g2
theorem INX.tick (h : INX s 1000 b ad T Q T2 σ) (hs : s ≤ 1000) (hnow : ix (T 0 0) < 20000) (hn : T 0 0 < x_I σ 807 b) : INX 0 1000 b ad (x_up T 0 0 (T 0 0 + 1)) Q T2 (x_uI σ 806 b (T 0 0 + 1)) := by
  obtain ⟨hX, hM, hJ, hQ, hA, hY, hR⟩ := h
  have e0 : T 0 0 + 1 = nI (ix (T 0 0) + 1) := by rw [← nI_1, ← hJ.nw.1]
  have i0 : ix (T 0 0 + 1) = ix (T 0 0) + 1 := by rw [e0, ix_nI (by omega)]
  have hMM := hJ.nM
  refine ⟨hX.u0 _, hM.uI _ (by decide), ?_, hQ, hA, hY.congr rfl rfl rfl rfl rfl rfl, hR⟩
  have tt := hJ.nw.ti (by omega)
  obtain ⟨hC, hW, hB, hO, hM, hnw, hpu, hop, hwi, hls, hdg, hrl, hsp, hor, hme, hmq, hmw, hmr, hfC, hfW, hfO, hfM, hkn⟩ := hJ
  exact ⟨hC, hW, hB, hO, hM, (by
    show isN (T 0 0 + 1) 20001
    rw [e0]; exact isN.of (by omega) (by decide)), (by
    show isN (T 46 0) (cM T + 1000 * ix (T 0 0 + 1) + 0 + 1)
    rw [i0]; exact hpu.mono (by omega)), hop, hwi, hls, hdg, hrl, hsp, hor, hme, hmq, (fun i hi hq => by
    show isN (T 39 i) (ix (T 0 0 + 1) + 61) ∧ ix (T 0 0 + 1) ≤ ix (T 39 i)
    obtain ⟨g1, g2⟩ := hmw i hi hq
    rw [i0]
    have q1 := hA i hi (by have : i < cM T := hi; omega) hq
    rw [i_lt] at hn
    rw [i_le] at q1
    rw [tt] at hn
    rw [g1.ti (by omega)] at q1
    exact ⟨g1.mono (by omega), by omega⟩), hmr, hfC, hfW, hfO, hfM, hkn⟩
end PS
