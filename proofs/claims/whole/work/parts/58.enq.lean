section PE
variable {b : Nat} {ad : Ad} {T : Tb} {Q : Qs} {σ : PH} {s k : Nat}
/-- what holds of counters and wires -/
def NT (T : Tb) : Prop := isN (T 1 0) 11 ∧ isN (T 7 0) 16 ∧ (∀ w, w < cW T → isN (T 8 w) (cC T) ∧ isN (T 9 w) (cC T) ∧ ix (T 8 w) ≠ ix (T 9 w) ∧ isN (T 10 w) 61 ∧ 1 ≤ ix (T 10 w) ∧ 0 ≤ T 12 w) ∧ (∀ i, i < 100 → isN (T 13 i) 1000001)
theorem JT.nt (h : JT s T) : NT T := ⟨h.C, h.W, h.wi, h.ls⟩
theorem NT.nC (h : NT T) : cC T ≤ 10 := Nat.lt_succ_iff.mp h.1.2
theorem NT.nW (h : NT T) : cW T ≤ 15 := Nat.lt_succ_iff.mp h.2.1.2
theorem nwf_some {i j w : Nat} : ∀ {n : Nat}, nwf T i j n = some w → w < n ∧ cd T i j w = true := by
  intro n
  induction n with
  | zero => intro h; cases h
  | succ n ih =>
    intro h
    simp only [nwf] at h
    by_cases c : cd T i j n = true
    · rw [if_pos c] at h
      cases e : nwf T i j n with
      | none => rw [e] at h; cases h; exact ⟨by omega, c⟩
      | some v =>
        rw [e] at h
        by_cases c2 : (ot T n i).getD 0 < (ot T v i).getD 0
        · simp only [c2, if_true] at h; cases h; exact ⟨by omega, c⟩
        · simp only [c2, if_false] at h
          cases h
          have := ih e
          exact ⟨by omega, this.2⟩
    · rw [if_neg c] at h
      have := ih h
      exact ⟨by omega, this.2⟩
theorem nwf_ex {i j w : Nat} (c : cd T i j w = true) : ∀ {n : Nat}, w < n → ∃ v, nwf T i j n = some v := by
  intro n
  induction n with
  | zero => intro h; omega
  | succ n ih =>
    intro h
    simp only [nwf]
    by_cases c1 : cd T i j n = true
    · rw [if_pos c1]
      cases e : nwf T i j n with
      | none => exact ⟨_, rfl⟩
      | some v =>
        by_cases c2 : (ot T n i).getD 0 < (ot T v i).getD 0
        · simp only [c2, if_true]; exact ⟨_, rfl⟩
        · simp only [c2, if_false]; exact ⟨_, rfl⟩
    · rw [if_neg c1]
      refine ih ?_
      have : w ≠ n := fun q => c1 (q ▸ c)
      omega
theorem ot_end {w i o : Nat} (h : ot T w i = some o) : (ix (T 8 w) = i ∧ ix (T 9 w) = o) ∨ (ix (T 9 w) = i ∧ ix (T 8 w) = o) := by
  unfold ot at h
  by_cases c : ix (T 8 w) = i
  · rw [if_pos c] at h; cases h; exact Or.inl ⟨c, rfl⟩
  · rw [if_neg c] at h
    by_cases c2 : ix (T 9 w) = i
    · rw [if_pos c2] at h; cases h; exact Or.inr ⟨c2, rfl⟩
    · rw [if_neg c2] at h; cases h
theorem cd_ot {i j w : Nat} (h : cd T i j w = true) : ∃ o, ot T w i = some o ∧ Dm T o j < 1000000 ∧ ix (T 10 w) + Dm T o j = Dm T i j := by
  unfold cd at h
  cases e : ot T w i with
  | none => rw [e] at h; cases h
  | some o =>
    rw [e] at h
    simp only [Bool.and_eq_true, decide_eq_true_eq] at h
    exact ⟨o, rfl, h.1, h.2⟩
theorem way_ex (hJ : JT s T) {i j : Nat} (hi : i < 10) (hj : j < 10) (hne : i ≠ j) (hD : Dm T i j < 1000000) : ∃ w, nwf T i j (cW T) = some w := by
  obtain ⟨w, hw, h⟩ := hJ.sp i j hi hj hne hD
  obtain ⟨-, -, hn, -, h1, -⟩ := hJ.wi w hw
  refine nwf_ex (w := w) ?_ hw
  unfold cd ot
  rcases h with ⟨h2, h3⟩ | ⟨h2, h3⟩
  · simp only [h2, if_true, Bool.and_eq_true, decide_eq_true_eq]
    omega
  · have : ¬ ix (T 8 w) = i := fun q => hn (q.trans h2.symm)
    simp only [this, h2, if_true, if_false, Bool.and_eq_true, decide_eq_true_eq]
    omega
/-- a wire's number, or -1 -/
def wv : Option Nat → Int32
  | none => -1
  | some w => nI w
theorem wv_n {w : Nat} (h : w < 2147483648) : ¬ wv (some w) = -1 := by
  intro q
  have := congrArg Int32.toInt q
  rw [show wv (some w) = nI w from rfl, i_nI h] at this
  have e : (-1 : Int32).toInt = -1 := rfl
  omega
theorem t_otherEnd (h : NT T) (F : Nat) {w i : Nat} (hw : w < cW T) (hi : i < 10) : tX9_otherEnd F (nI w) (nI i) T = some (wv (ot T w i), T) := by
  obtain ⟨h8, h9, hn, -⟩ := h.2.2.1 w hw
  have hW := h.nW
  have hw2 : w < 15 := by omega
  have e8 : T 8 w = nI i ↔ ix (T 8 w) = i := ⟨fun q => by rw [q, ix_nI (by omega)], fun q => by rw [← q]; exact h8.1⟩
  have e9 : T 9 w = nI i ↔ ix (T 9 w) = i := ⟨fun q => by rw [q, ix_nI (by omega)], fun q => by rw [← q]; exact h9.1⟩
  unfold tX9_otherEnd ot
  refine r_a rfl hw2 rfl ?_
  by_cases c1 : ix (T 8 w) = i
  · refine r_t (e8.mpr c1) ?_
    refine r_a rfl hw2 rfl ?_
    rw [if_pos c1]
    show some (T 9 w, T) = some (nI (ix (T 9 w)), T)
    rw [← h9.1]
  · refine r_f (fun q => c1 (e8.mp q)) ?_
    refine r_a rfl hw2 rfl ?_
    rw [if_neg c1]
    by_cases c2 : ix (T 9 w) = i
    · refine r_t (e9.mpr c2) ?_
      refine r_a rfl hw2 rfl ?_
      rw [if_pos c2]
      show some (T 8 w, T) = some (nI (ix (T 8 w)), T)
      rw [← h8.1]
    · refine r_f (fun q => c2 (e9.mp q)) ?_
      rw [if_neg c2]
      rfl
theorem ot_lt (h : NT T) {w i o : Nat} (hw : w < cW T) (e : ot T w i = some o) : o < cC T ∧ i < cC T := by
  obtain ⟨h8, h9, -⟩ := h.2.2.1 w hw
  rcases ot_end e with ⟨q1, q2⟩ | ⟨q1, q2⟩
  · exact ⟨q2 ▸ h9.2, q1 ▸ h8.2⟩
  · exact ⟨q2 ▸ h8.2, q1 ▸ h9.2⟩
theorem t_nextL (h : NT T) (F : Nat) {p t : Nat} (hp : p < cC T) (ht : t < cC T) : ∀ (k n i : Nat), i + k = cW T → k < n → tX9_nextWire_5 F n (nI p) (nI t) (wv (nwf T p t i)) (nI i) T = some (wv (nwf T p t (cW T)), T) := by
  have hC := h.nC
  have hW := h.nW
  have hT : T 7 0 = nI (cW T) := h.2.1.1
  intro k
  induction k with
  | zero =>
    intro n i hi hn
    obtain ⟨n, rfl⟩ : ∃ m, n = m + 1 := ⟨n - 1, by omega⟩
    have : i = cW T := by omega
    subst this
    rw [tX9_nextWire_5]
    refine r_g rfl ?_
    refine r_t (by rw [hT]; exact nI_le (Nat.le_refl _) (by omega)) ?_
    rfl
  | succ k ih =>
    intro n i hi hn
    obtain ⟨n, rfl⟩ : ∃ m, n = m + 1 := ⟨n - 1, by omega⟩
    have hio : i < cW T := by omega
    have hi2 : i < 15 := by omega
    have e2 := ih n (i + 1) (by omega) (by omega)
    have eo := t_otherEnd h F hio (i := p) (by omega)
    obtain ⟨-, -, -, w10, -, -⟩ := h.2.2.1 i hio
    rw [tX9_nextWire_5]
    refine r_g rfl ?_
    refine r_f (by rw [hT]; exact nI_ge hio (by omega)) ?_
    refine r_st eo ?_
    cases e : ot T i p with
    | none =>
      have c1 : ¬ cd T p t i = true := by unfold cd; rw [e]; intro q; cases q
      have e4 : nwf T p t (i + 1) = nwf T p t i := if_neg c1
      rw [e4] at e2
      refine r_t rfl ?_
      refine r_q ?_
      rw [nI_1]
      exact e2
    | some o =>
      obtain ⟨ho, -⟩ := ot_lt h hio e
      have hot : 10 * o + t < 100 := by omega
      have hpt : 10 * p + t < 100 := by omega
      have l1 := h.2.2.2 _ hot
      have l2 := h.2.2.2 _ hpt
      have lt : ((1000000 : Int32) ≤ T 13 (10 * o + t)) ↔ ¬ Dm T o t < 1000000 := by
        rw [i_le, l1.ti (by omega)]
        show (1000000 : Int) ≤ _ ↔ _
        unfold Dm
        omega
      refine r_f (wv_n (by omega)) ?_
      refine r_a (nI10 o t) hot rfl ?_
      by_cases c2 : Dm T o t < 1000000
      case neg =>
        have c1 : ¬ cd T p t i = true := by unfold cd; rw [e]; simp [c2]
        have e4 : nwf T p t (i + 1) = nwf T p t i := if_neg c1
        rw [e4] at e2
        refine r_t (lt.mpr c2) ?_
        refine r_q ?_
        rw [nI_1]
        exact e2
      have eq : (T 10 i + T 13 (10 * o + t) = T 13 (10 * p + t)) ↔ (ix (T 10 i) + Dm T o t = Dm T p t) := by
        have b1 := w10.2
        have b2 := l1.2
        have s1 : T 10 i + T 13 (10 * o + t) = nI (ix (T 10 i) + ix (T 13 (10 * o + t))) := by rw [← nI_add, ← w10.1, ← l1.1]
        rw [s1]
        constructor
        · intro q
          have := congrArg ix q
          rw [ix_nI (by omega)] at this
          exact this
        · intro q
          exact (congrArg nI q).trans l2.1.symm
      refine r_f (fun q => lt.mp q c2) ?_
      refine r_a rfl hi2 rfl ?_
      refine r_a (nI10 o t) hot rfl ?_
      refine r_a (nI10 p t) hpt rfl ?_
      by_cases c3 : ix (T 10 i) + Dm T o t = Dm T p t
      case neg =>
        have c1 : ¬ cd T p t i = true := by unfold cd; rw [e]; simp [c3]
        have e4 : nwf T p t (i + 1) = nwf T p t i := if_neg c1
        rw [e4] at e2
        refine r_f (fun q => c3 (eq.mp q)) ?_
        refine r_q ?_
        rw [nI_1]
        exact e2
      have c1 : cd T p t i = true := by unfold cd; rw [e]; simp [c2, c3]
      refine r_t (eq.mpr c3) ?_
      cases e5 : nwf T p t i with
      | none =>
        have e4 : nwf T p t (i + 1) = some i := by simp only [nwf, c1, e5, if_true]
        rw [e4] at e2
        refine r_t rfl ?_
        refine r_q ?_
        rw [nI_1]
        exact e2
      | some v =>
        obtain ⟨g1, g2⟩ := nwf_some e5
        obtain ⟨o', f1, -⟩ := cd_ot g2
        obtain ⟨ho', -⟩ := ot_lt h (w := v) (by omega) f1
        have eo' := t_otherEnd h F (w := v) (by omega) (i := p) (by omega)
        rw [f1] at eo'
        refine r_f (wv_n (by omega)) ?_
        refine r_st eo' ?_
        by_cases c6 : o < o'
        · have e4 : nwf T p t (i + 1) = some i := by simp only [nwf, c1, e5, e, f1, if_true, Option.getD_some, c6]
          rw [e4] at e2
          refine r_f (nI_ge c6 (by omega)) ?_
          refine r_q ?_
          rw [nI_1]
          exact e2
        · have e4 : nwf T p t (i + 1) = some v := by simp only [nwf, c1, e5, e, f1, if_true, Option.getD_some, c6, if_false]
          rw [e4] at e2
          refine r_t (nI_le (by omega) (by omega)) ?_
          refine r_q ?_
          rw [nI_1]
          exact e2
theorem t_nextWire (h : NT T) {F : Nat} (hF : 15 < F) {p t : Nat} (hp : p < cC T) (ht : t < cC T) : tX9_nextWire F (nI p) (nI t) T = some (wv (nwf T p t (cW T)), T) := by
  have hW := h.nW
  exact t_nextL h F hp ht (cW T) F 0 (by omega) (by omega)
theorem e_nextWire (h : RX b ad T Q σ) (hY : WY b ad T σ) (hN : NT T) (F : Nat) {p t : Nat} (hp : p < cC T) (ht : t < cC T) : x_rn (mX3_nextWire F (some (b + 1)) (some (ad 1 p)) (some (ad 1 t))) σ = some ((nwf T p t (cW T)).map (ad 7), σ) := by
  have hC := hN.nC
  have k2 := h.fK.2.1
  have k7 := h.fK.2.2.2.2.2.2.1
  have l6 := h.fL.2.2.2.2.1
  have r9 := h.fR.2.2.2.2.2.2.2.2.1
  have e : nI p * (10 : Int32) + nI t = nI (10 * p + t) := by
    rw [show (10 : Int32) = nI 10 from rfl, pk_mul, nI_add, Nat.mul_comm]
  unfold mX3_nextWire
  refine q_f n_some ?_
  refine q_f n_some ?_
  refine q_rI (h.k1 _ hp) (h.c0 _ hp) ?_
  refine q_rI (h.k1 _ ht) (h.c0 _ ht) ?_
  refine q_p ?_
  rw [e]
  refine q_f (nI_pos (by omega)) ?_
  refine q_rR k2 r9 ?_
  refine q_aL k7 l6 ?_
  refine q_f (nI_ge (by omega) (by decide)) ?_
  refine q_rR k2 r9 ?_
  refine q_aQ rfl k7 l6 (by omega) (by decide) (hY.1 p t (by omega) (by omega)) ?_
  exact q_e
def kq (T : Tb) (w p : Nat) : Nat := if ix (T 8 w) = p then 2 * w else 2 * w + 1
theorem kq_d {w p : Nat} : kq T w p / 2 = w := by unfold kq; split <;> omega
theorem kq_lt {w p : Nat} (hw : w < cW T) : kq T w p < 2 * cW T := by unfold kq; split <;> omega
theorem kq_en {w p : Nat} (h : ix (T 8 w) = p ∨ ix (T 9 w) = p) : en T (kq T w p) = p := by
  unfold en kq
  by_cases c : ix (T 8 w) = p
  · rw [if_pos c, if_pos (by omega), show 2 * w / 2 = w by omega]; exact c
  · rw [if_neg c, if_neg (by omega), show (2 * w + 1) / 2 = w by omega]
    rcases h with q | q
    · exact absurd q c
    · exact q
theorem e_queueFrom (h : RX b ad T Q σ) (hN : NT T) (F : Nat) {w p : Nat} (hw : w < cW T) (hp : p < cC T) : x_rn (mX7_queueFrom F (some (ad 7 w)) (some (ad 1 p))) σ = some (some (ad 5 (kq T w p)), σ) := by
  have kw := h.k7 _ hw
  have qa := h.k5 (2 * w) (by omega)
  have sa := (h.q0 (2 * w) (by omega)).1
  rw [show en T (2 * w) = ix (T 8 w) by unfold en; rw [if_pos (by omega), show 2 * w / 2 = w by omega]] at sa
  unfold mX7_queueFrom
  refine q_rR kw (h.w0 _ hw).1 ?_
  refine q_rR qa sa ?_
  by_cases c : ix (T 8 w) = p
  · rw [show kq T w p = 2 * w from if_pos c]
    refine q_t (by rw [c]) ?_
    refine q_rR kw (h.w0 _ hw).1 ?_
    exact q_e
  · rw [show kq T w p = 2 * w + 1 from if_neg c]
    refine q_f (fun q => c ((h.j1 _ _ (hN.2.2.1 w hw).1.2 hp).mp (Option.some.inj q))) ?_
    refine q_rR kw (h.w0 _ hw).2 ?_
    exact q_e
/-- what the queues need -/
def QW (T : Tb) (Q : Qs) (m k : Nat) : Prop := (∀ x, x < 2 * cW T → ∀ i, i ∈ Q x → i < cM T) ∧ (∀ x, x < 2 * cW T → m ∉ Q x) ∧ (∀ x, x < 2 * cW T → x ≠ k → ∀ i, i ∈ Q k → i ∉ Q x) ∧ (Q k).Nodup ∧ (∀ i, i ∈ Q k → T 35 i = 0)
theorem e_enqueue (h : RX b ad T Q σ) (hY : WY b ad T σ) (hN : NT T) (F : Nat) {m w : Nat} (hm : m < cM T) (h2 : T 35 m = 2) (hp : ix (T 36 m) < cC T) (ht : ix (T 34 m) < cC T) (hw : nwf T (ix (T 36 m)) (ix (T 34 m)) (cW T) = some w) (hq : QW T Q m (kq T w (ix (T 36 m)))) : ∃ σ', x_rn (mX8_enqueue F (some b) (some (ad 2 m))) σ = some ((), σ') ∧ RX b ad (x_up T 35 m 0) (qa Q (kq T w (ix (T 36 m))) m) σ' ∧ SM σ σ' := by
  have k1 := h.fK.1
  have km := h.k2 _ hm
  have m5 := h.m5 _ hm
  rw [if_neg (by rw [h2]; decide)] at m5
  have wl := (nwf_some hw).1
  have e1 := e_nextWire h hY hN F hp ht
  rw [hw] at e1
  have e2 := e_queueFrom h hN F wl hp
  obtain ⟨q1, q2, q3, q4, q5⟩ := hq
  obtain ⟨σ', e3, g1, g2⟩ := e_add h F hm h2 (kq_lt wl) q1 q2 q3 q4 q5
  refine ⟨σ', ?_, g1, g2⟩
  unfold mX8_enqueue
  refine q_rR k1 h.fR.1 ?_
  refine q_rR km m5 ?_
  refine q_rR km (h.m3 _ hm) ?_
  refine q_cl h.fK.2.1 e1 ?_
  refine q_f n_some ?_
  refine q_rR km m5 ?_
  refine q_cl (h.k7 _ wl) e2 ?_
  refine q_cl (h.k5 _ (kq_lt wl)) e3 ?_
  exact q_e
def tq (T : Tb) (m : Nat) (p : Int32) (w : Nat) : Tb := x_up (x_up (x_up (x_up (x_up T 35 m 0) 36 m p) 37 m (nI w)) 38 m (T 46 0)) 46 0 (T 46 0 + 1)
theorem t_queues (h : NT T) {F : Nat} (hF : 15 < F) {m w p : Nat} (hm : m < 1000) (hp : p < cC T) (ht : isN (T 34 m) (cC T)) (hw : nwf T p (ix (T 34 m)) (cW T) = some w) : tX9_queues F (nI m) (nI p) T = some ((), tq T m (nI p) w) := by
  have h' : NT (x_up (x_up T 35 m 0) 36 m (nI p)) := h
  have e1 := t_nextWire h' hF (p := p) (t := ix (T 34 m)) hp ht.2
  have e2 : nwf (x_up (x_up T 35 m 0) 36 m (nI p)) p (ix (T 34 m)) (cW (x_up (x_up T 35 m 0) 36 m (nI p))) = some w := (nwf_congr (T := T) (T' := x_up (x_up T 35 m 0) 36 m (nI p)) rfl rfl rfl rfl _ _ _).trans hw
  rw [e2, ← ht.1] at e1
  unfold tX9_queues
  refine r_s rfl hm ?_
  refine r_s rfl hm ?_
  refine r_a rfl hm rfl ?_
  refine r_st e1 ?_
  refine r_s rfl hm ?_
  refine r_g rfl ?_
  refine r_s rfl hm ?_
  refine r_g rfl ?_
  refine r_p ?_
  rfl
theorem JQ.add {T' : Tb} (h : JQ T Q) {m : Nat} (hW : cW T' = cW T) (hM : ∀ l, l ≠ m → (l < cM T' ↔ l < cM T)) (hm : m < cM T') (he : ∀ l, l ≠ m → T' 35 l = T 35 l ∧ T' 36 l = T 36 l ∧ T' 37 l = T 37 l ∧ T' 38 l = T 38 l) (hen : ∀ x, en T' x = en T x) (hnot : ∀ x, x < 2 * cW T → m ∉ Q x) (hk : k < 2 * cW T) (m35 : T' 35 m = 0) (m37 : ix (T' 37 m) = k / 2) (m36 : ix (T' 36 m) = en T k) (hne : ∀ w, w < cW T → ix (T 8 w) ≠ ix (T 9 w)) (hlast : ∀ l, l ∈ Q k → ix (T 38 l) < ix (T' 38 m)) : JQ T' (qa Q k m) := by
  refine ⟨fun x hx l => ?_, fun x hx => ?_⟩
  · rw [hW] at hx
    rw [hen]
    by_cases e : l = m
    · subst e
      rw [m37, m36]
      by_cases c : x = k
      · subst c
        rw [qa_s]
        exact ⟨fun _ => ⟨hm, m35, rfl, rfl⟩, fun _ => by simp⟩
      · rw [qa_n c]
        refine ⟨fun q => absurd q (hnot x hx), fun q => ?_⟩
        exfalso
        obtain ⟨-, -, q1, q2⟩ := q
        have := hne (k / 2) (by omega)
        unfold en at q2
        rw [← q1] at q2
        by_cases c1 : k % 2 = 0
        · rw [if_pos c1, if_neg (by omega)] at q2; exact this q2
        · rw [if_neg c1, if_pos (by omega)] at q2; exact this q2.symm
    · obtain ⟨g1, g2, g3, g4⟩ := he l e
      rw [g1, g2, g3, hM l e, ← h.1 x hx l]
      by_cases c : x = k
      · subst c; rw [qa_s]; simp [e]
      · rw [qa_n c]
  · rw [hW] at hx
    have base : ∀ y, y < 2 * cW T → (Q y).Pairwise (fun a b => ix (T' 38 a) < ix (T' 38 b)) := by
      intro y hy
      refine (h.2 y hy).imp_of_mem (fun {a c} ha hc q => ?_)
      have na : a ≠ m := fun q => hnot y hy (q ▸ ha)
      have nc : c ≠ m := fun q => hnot y hy (q ▸ hc)
      rw [(he a na).2.2.2, (he c nc).2.2.2]; exact q
    by_cases c : x = k
    · subst c
      rw [qa_s, List.pairwise_append]
      refine ⟨base x hx, by simp, fun a ha c hc => ?_⟩
      simp only [List.mem_singleton] at hc
      subst hc
      have na : a ≠ c := fun q => hnot x hx (q ▸ ha)
      rw [(he a na).2.2.2]
      exact hlast a ha
    · rw [qa_n c]; exact base x hx
theorem JQ.dis (h : JQ T Q) (hJ : NT T) {x k : Nat} (hx : x < 2 * cW T) (hk : k < 2 * cW T) (hne : x ≠ k) {i : Nat} (hi : i ∈ Q k) : i ∉ Q x := by
  intro q
  obtain ⟨-, -, q1, q2⟩ := (h.1 k hk i).mp hi
  obtain ⟨-, -, q3, q4⟩ := (h.1 x hx i).mp q
  have := (hJ.2.2.1 (k / 2) (by omega)).2.2.1
  rw [q2] at q4
  rw [q1] at q3
  unfold en at q4
  rw [← q3] at q4
  by_cases c1 : k % 2 = 0
  · rw [if_pos c1, if_neg (by omega)] at q4; exact this q4
  · rw [if_neg c1, if_pos (by omega)] at q4; exact this q4.symm
end PE
