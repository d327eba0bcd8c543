section PAt
variable {b : Nat} {ad : Ad} {T : Tb} {Q : Qs} {σ : PH} {s : Nat}
def sT (f : Nat → Nat) : Nat → Nat
  | 0 => 0
  | n + 1 => sT f n + f n
theorem sT_congr {f g : Nat → Nat} {n : Nat} (h : ∀ i, i < n → f i = g i) : sT f n = sT g n := by
  induction n with
  | zero => rfl
  | succ n ih => simp only [sT]; rw [ih (fun i hi => h i (by omega)), h n (by omega)]
theorem sT_zero {f : Nat → Nat} {n : Nat} (h : ∀ i, i < n → f i = 0) : sT f n = 0 := by
  induction n with
  | zero => rfl
  | succ n ih => simp only [sT]; rw [ih (fun i hi => h i (by omega)), h n (by omega)]
theorem sT_add {f g : Nat → Nat} {n : Nat} : sT (fun i => f i + g i) n = sT f n + sT g n := by
  induction n with
  | zero => rfl
  | succ n ih => simp only [sT]; rw [ih]; omega
theorem sT_swap {g : Nat → Nat → Nat} {M W : Nat} : sT (fun w => sT (fun m => g m w) M) W = sT (fun m => sT (fun w => g m w) W) M := by
  induction M with
  | zero => exact sT_zero (fun _ _ => rfl)
  | succ M ih => simp only [sT]; rw [sT_add, ih]
theorem sT_one {p : Prop} [Decidable p] {x W : Nat} (hx : p → x < W) : sT (fun w => if p ∧ x = w then 1 else 0) W = if p then 1 else 0 := by
  by_cases hp : p
  · have hx := hx hp
    simp only [hp, true_and, if_true]
    induction W with
    | zero => omega
    | succ W ih =>
      simp only [sT]
      by_cases e : x = W
      · subst e
        rw [sT_zero (fun i hi => if_neg (by omega))]; simp
      · rw [if_neg e, ih (fun _ => by omega) (by omega)]
  · simp only [hp, false_and, if_false]
    exact sT_zero (fun _ _ => rfl)
theorem sT_len {p : Nat → Prop} [DecidablePred p] : ∀ (n : Nat) (L : List Nat), L.Nodup → (∀ m, m ∈ L ↔ (m < n ∧ p m)) → L.length = sT (fun m => if p m then 1 else 0) n := by
  intro n
  induction n with
  | zero =>
    intro L _ h
    cases L with
    | nil => rfl
    | cons a L => exact absurd ((h a).mp List.mem_cons_self).1 (by omega)
  | succ n ih =>
    intro L hn h
    simp only [sT]
    by_cases hp : p n
    · have hm : n ∈ L := (h n).mpr ⟨by omega, hp⟩
      have e := ih (L.erase n) (hn.erase n) (fun m => by
        rw [hn.mem_erase_iff, h m]
        constructor
        · rintro ⟨q1, q2, q3⟩; exact ⟨by omega, q3⟩
        · rintro ⟨q1, q2⟩; exact ⟨by omega, by omega, q2⟩)
      rw [List.length_erase_of_mem hm] at e
      have := List.length_pos_of_mem hm
      rw [if_pos hp]; omega
    · have e := ih L hn (fun m => by
        rw [h m]
        constructor
        · rintro ⟨q1, q2⟩
          have : m ≠ n := fun q => hp (q ▸ q2)
          exact ⟨by omega, q2⟩
        · rintro ⟨q1, q2⟩; exact ⟨by omega, q2⟩)
      rw [if_neg hp]; omega
/-- how many wait at c by wire w -/
def ql (T : Tb) (Q : Qs) (c w : Nat) : Nat := if ix (T 8 w) = c then (Q (2 * w)).length else if ix (T 9 w) = c then (Q (2 * w + 1)).length else 0
theorem JQ.nd (h : JQ T Q) {k : Nat} (hk : k < 2 * cW T) : (Q k).Nodup := (h.2 k hk).imp (fun q e => by subst e; omega)
theorem ql_eq (hJ : JT s T) (hQ : JQ T Q) (c : Nat) : sT (ql T Q c) (cW T) = sT (fun m => if T 35 m = 0 ∧ ix (T 36 m) = c then 1 else 0) (cM T) := by
  have e1 : ∀ w, w < cW T → ql T Q c w = sT (fun m => if (T 35 m = 0 ∧ ix (T 36 m) = c) ∧ ix (T 37 m) = w then 1 else 0) (cM T) := by
    intro w hw
    unfold ql
    by_cases c1 : ix (T 8 w) = c
    · rw [if_pos c1]
      refine sT_len (p := fun m => (T 35 m = 0 ∧ ix (T 36 m) = c) ∧ ix (T 37 m) = w) _ _ (hQ.nd (by omega)) (fun m => ?_)
      rw [hQ.1 (2 * w) (by omega) m]
      have en1 : en T (2 * w) = c := by
        unfold en; rw [if_pos (by omega), show 2 * w / 2 = w by omega]; exact c1
      rw [en1, show 2 * w / 2 = w by omega]
      constructor
      · rintro ⟨q1, q2, q3, q4⟩; exact ⟨q1, ⟨q2, q4⟩, q3⟩
      · rintro ⟨q1, ⟨q2, q4⟩, q3⟩; exact ⟨q1, q2, q3, q4⟩
    · rw [if_neg c1]
      by_cases c2 : ix (T 9 w) = c
      · rw [if_pos c2]
        refine sT_len (p := fun m => (T 35 m = 0 ∧ ix (T 36 m) = c) ∧ ix (T 37 m) = w) _ _ (hQ.nd (by omega)) (fun m => ?_)
        rw [hQ.1 (2 * w + 1) (by omega) m]
        have en1 : en T (2 * w + 1) = c := by
          unfold en; rw [if_neg (by omega), show (2 * w + 1) / 2 = w by omega]; exact c2
        rw [en1, show (2 * w + 1) / 2 = w by omega]
        constructor
        · rintro ⟨q1, q2, q3, q4⟩; exact ⟨q1, ⟨q2, q4⟩, q3⟩
        · rintro ⟨q1, ⟨q2, q4⟩, q3⟩; exact ⟨q1, q2, q3, q4⟩
      · rw [if_neg c2]
        refine (sT_zero (fun m hm => if_neg ?_)).symm
        rintro ⟨⟨q1, q2⟩, q3⟩
        have := (hJ.mq m hm q1).2
        rw [q3, q2] at this
        rcases this with q | q
        · exact c1 q.symm
        · exact c2 q.symm
  rw [sT_congr e1, sT_swap]
  exact sT_congr (fun m hm => sT_one (fun q => ((hJ.mq m hm q.1).1).2))
/-- what is still awaited -/
def aw (T : Tb) (c : Nat) : Nat → Int32
  | 0 => 0
  | n + 1 => if ix (T 19 n) = c ∧ T 23 n ≠ 0 ∧ T 24 n = 0 ∧ T 25 n = 0 then aw T c n + T 20 n else aw T c n
theorem in_nI {t n i : Nat} (h : isN (T t 0) n) (hn : n ≤ 2147483648) (hi : i < ix (T t 0)) : 0 ≤ nI i ∧ nI i < T t 0 := by
  have := h.2
  refine ⟨nI_pos' (by omega), ?_⟩
  rw [h.1]
  exact nI_lt hi (by omega)
theorem e_awaitedL (h : RX b ad T Q σ) (j : JT s T) (F : Nat) {c : Nat} (hc : c < cC T) : ∀ (k n i : Nat), i + k = cO T → k < n → x_rn (mX8_awaitedAt_4 F n (some b) (some (ad 1 c)) (aw T c i) (nI i)) σ = some (aw T c (cO T), σ) := by
  have k1 := h.fK.1
  have hO := j.nO
  have hT : T 17 0 = nI (cO T) := j.O.1
  intro k
  induction k with
  | zero =>
    intro n i hi hn
    obtain ⟨n, rfl⟩ : ∃ m, n = m + 1 := ⟨n - 1, by omega⟩
    have : i = cO T := by omega
    subst this
    rw [mX8_awaitedAt_4]
    refine q_rI k1 h.z804 ?_
    refine q_t (by rw [hT]; exact nI_le (Nat.le_refl _) (by omega)) ?_
    exact q_e
  | succ k ih =>
    intro n i hi hn
    obtain ⟨n, rfl⟩ : ∃ m, n = m + 1 := ⟨n - 1, by omega⟩
    have hio : i < cO T := by omega
    have ko := h.k4 _ hio
    have jo := (j.or _ hio).2.1.2
    have e1 := e_findOrder h j F (nI i)
    rw [fd_some (in_nI j.O (by omega) hio), ix_nI (by omega)] at e1
    have e2 := ih n (i + 1) (by omega) (by omega)
    rw [mX8_awaitedAt_4]
    refine q_rI k1 h.z804 ?_
    refine q_f (by rw [hT]; exact nI_ge hio (by omega)) ?_
    refine q_cl k1 e1 ?_
    refine q_f n_some ?_
    refine q_rR ko (h.o1 _ hio).2 ?_
    by_cases c1 : ix (T 19 i) = c
    · refine q_t (by rw [c1]) ?_
      have e3 : x_rn (mX4_isAwaited F (some (ad 4 i))) σ = some (bi (T 23 i ≠ 0 ∧ T 24 i = 0 ∧ T 25 i = 0), σ) := by
        unfold mX4_isAwaited
        refine q_rI ko (h.o6 _ hio) ?_
        by_cases d1 : T 23 i = 0
        · refine q_t d1 ?_
          rw [bi_z (by rintro ⟨q, -⟩; exact q d1)]; exact q_e
        · refine q_f d1 ?_
          refine q_rI ko (h.o7 _ hio) ?_
          by_cases d2 : T 24 i = 0
          · refine q_t d2 ?_
            refine q_rI ko (h.o8 _ hio) ?_
            by_cases d3 : T 25 i = 0
            · refine q_t d3 ?_
              rw [show bi (T 23 i ≠ 0 ∧ T 24 i = 0 ∧ T 25 i = 0) = 1 from if_pos ⟨d1, d2, d3⟩]; exact q_e
            · refine q_f d3 ?_
              rw [bi_z (by rintro ⟨-, -, q⟩; exact d3 q)]; exact q_e
          · refine q_f d2 ?_
            rw [bi_z (by rintro ⟨-, q, -⟩; exact d2 q)]; exact q_e
      refine q_cl ko e3 ?_
      by_cases c2 : T 23 i ≠ 0 ∧ T 24 i = 0 ∧ T 25 i = 0
      · have e4 : aw T c (i + 1) = aw T c i + T 20 i := if_pos ⟨c1, c2⟩
        rw [e4] at e2
        refine q_f (bi_n c2) ?_
        refine q_rI ko (h.o3 _ hio) ?_
        refine q_p ?_
        refine q_p ?_
        rw [nI_1]
        exact e2
      · have e4 : aw T c (i + 1) = aw T c i := if_neg (fun q => c2 q.2)
        rw [e4] at e2
        refine q_t (bi_z c2) ?_
        refine q_p ?_
        rw [nI_1]
        exact e2
    · have e4 : aw T c (i + 1) = aw T c i := if_neg (fun q => c1 q.1)
      rw [e4] at e2
      refine q_f (fun q => c1 ((h.j1 _ _ jo hc).mp (Option.some.inj q))) ?_
      refine q_p ?_
      rw [nI_1]
      exact e2
theorem t_lackL (j : JT s T) (F : Nat) {c : Nat} (hc : c < cC T) (y : Int32) : ∀ (k n i : Nat), i + k = cO T → k < n → tX9_lack_10 F n (nI c) (aw T c i + y) (nI i) T = some (if aw T c (cO T) + y ≤ 0 then 0 else aw T c (cO T) + y, T) := by
  have hO := j.nO
  have hC := j.nC
  have hT : T 17 0 = nI (cO T) := j.O.1
  intro k
  induction k with
  | zero =>
    intro n i hi hn
    obtain ⟨n, rfl⟩ : ∃ m, n = m + 1 := ⟨n - 1, by omega⟩
    have : i = cO T := by omega
    subst this
    rw [tX9_lack_10]
    refine r_g rfl ?_
    refine r_t (by rw [hT]; exact nI_le (Nat.le_refl _) (by omega)) ?_
    by_cases c1 : aw T c (cO T) + y ≤ 0
    · rw [if_pos c1, if_pos c1]; rfl
    · rw [if_neg c1, if_neg c1]; rfl
  | succ k ih =>
    intro n i hi hn
    obtain ⟨n, rfl⟩ : ∃ m, n = m + 1 := ⟨n - 1, by omega⟩
    have hio : i < cO T := by omega
    have hi2 : i < 200 := by omega
    obtain ⟨-, jo, -⟩ := j.or _ hio
    have e2 := ih n (i + 1) (by omega) (by omega)
    have ez : aw T c i + y + 0 = aw T c i + y := Int32.add_zero _
    rw [tX9_lack_10]
    refine r_g rfl ?_
    refine r_f (by rw [hT]; exact nI_ge hio (by omega)) ?_
    refine r_a rfl hi2 rfl ?_
    by_cases c1 : ix (T 19 i) = c
    · refine r_t (by rw [← c1]; exact jo.1) ?_
      refine r_a rfl hi2 rfl ?_
      by_cases d1 : T 23 i = 0
      · have e4 : aw T c (i + 1) = aw T c i := if_neg (fun q => q.2.1 d1)
        rw [e4] at e2
        refine r_t d1 ?_
        refine r_q ?_
        refine r_q ?_
        rw [nI_1, ez]
        exact e2
      · refine r_f d1 ?_
        refine r_a rfl hi2 rfl ?_
        by_cases d2 : T 24 i = 0
        · refine r_t d2 ?_
          refine r_a rfl hi2 rfl ?_
          by_cases d3 : T 25 i = 0
          · have e4 : aw T c (i + 1) = aw T c i + T 20 i := if_pos ⟨c1, d1, d2, d3⟩
            rw [e4] at e2
            refine r_t d3 ?_
            refine r_a rfl hi2 rfl ?_
            refine r_q ?_
            refine r_q ?_
            rw [nI_1, Int32.add_assoc, Int32.add_comm y, ← Int32.add_assoc]
            exact e2
          · have e4 : aw T c (i + 1) = aw T c i := if_neg (fun q => d3 q.2.2.2)
            rw [e4] at e2
            refine r_f d3 ?_
            refine r_q ?_
            refine r_q ?_
            rw [nI_1, ez]
            exact e2
        · have e4 : aw T c (i + 1) = aw T c i := if_neg (fun q => d2 q.2.2.1)
          rw [e4] at e2
          refine r_f d2 ?_
          refine r_q ?_
          refine r_q ?_
          rw [nI_1, ez]
          exact e2
    · have e4 : aw T c (i + 1) = aw T c i := if_neg (fun q => c1 q.1)
      rw [e4] at e2
      refine r_f (fun q => c1 (by rw [q, ix_nI (by omega)])) ?_
      refine r_q ?_
      refine r_q ?_
      rw [nI_1, ez]
      exact e2
theorem e_queuedL (h : RX b ad T Q σ) (j : JT s T) (F : Nat) {c : Nat} (hc : c < cC T) : ∀ (k n i : Nat), i + k = cW T → k < n → x_rn (mX3_queuedAt_4 F n (some (b + 1)) (some (ad 1 c)) (nI (sT (ql T Q c) i)) (nI i)) σ = some (nI (sT (ql T Q c) (cW T)), σ) := by
  have k2 := h.fK.2.1
  have hW := j.nW
  have hT : T 7 0 = nI (cW T) := j.W.1
  intro k
  induction k with
  | zero =>
    intro n i hi hn
    obtain ⟨n, rfl⟩ : ∃ m, n = m + 1 := ⟨n - 1, by omega⟩
    have : i = cW T := by omega
    subst this
    rw [mX3_queuedAt_4]
    refine q_rI k2 h.z301 ?_
    refine q_t (by rw [hT]; exact nI_le (Nat.le_refl _) (by omega)) ?_
    exact q_e
  | succ k ih =>
    intro n i hi hn
    obtain ⟨n, rfl⟩ : ∃ m, n = m + 1 := ⟨n - 1, by omega⟩
    have hio : i < cW T := by omega
    have kw := h.k7 _ hio
    obtain ⟨ja, jb, jn, -⟩ := j.wi _ hio
    have e1 := e_findWire h j F (nI i)
    rw [fd_some (in_nI j.W (by omega) hio), ix_nI (by omega)] at e1
    have e2 := ih n (i + 1) (by omega) (by omega)
    have qa := h.k5 (2 * i) (by omega)
    have qb := h.k5 (2 * i + 1) (by omega)
    have sa := (h.q0 (2 * i) (by omega)).1
    have sb := (h.q0 (2 * i + 1) (by omega)).1
    rw [show en T (2 * i) = ix (T 8 i) by unfold en; rw [if_pos (by omega), show 2 * i / 2 = i by omega]] at sa
    rw [show en T (2 * i + 1) = ix (T 9 i) by unfold en; rw [if_neg (by omega), show (2 * i + 1) / 2 = i by omega]] at sb
    rw [mX3_queuedAt_4]
    refine q_rI k2 h.z301 ?_
    refine q_f (by rw [hT]; exact nI_ge hio (by omega)) ?_
    refine q_cl k2 e1 ?_
    refine q_f n_some ?_
    by_cases c1 : ix (T 8 i) = c
    · have e3 : x_rn (mX7_touches F (some (ad 7 i)) (some (ad 1 c))) σ = some (1, σ) := by
        unfold mX7_touches
        refine q_rR kw (h.w0 _ hio).1 ?_
        refine q_rR qa sa ?_
        refine q_t (by rw [c1]) ?_
        exact q_e
      have e4 : x_rn (mX7_queueFrom F (some (ad 7 i)) (some (ad 1 c))) σ = some (some (ad 5 (2 * i)), σ) := by
        unfold mX7_queueFrom
        refine q_rR kw (h.w0 _ hio).1 ?_
        refine q_rR qa sa ?_
        refine q_t (by rw [c1]) ?_
        refine q_rR kw (h.w0 _ hio).1 ?_
        exact q_e
      refine q_cl kw e3 ?_
      refine q_f (by decide) ?_
      refine q_cl kw e4 ?_
      refine q_rI qa (h.q2 (2 * i) (by omega)) ?_
      refine q_p ?_
      refine q_p ?_
      rw [nI_1, nI_add]
      have e5 : sT (ql T Q c) (i + 1) = sT (ql T Q c) i + (Q (2 * i)).length := congrArg (sT (ql T Q c) i + ·) (if_pos c1)
      rw [e5] at e2
      exact e2
    · have ne1 : ¬ some (ad 1 (ix (T 8 i))) = some (ad 1 c) := fun q => c1 ((h.j1 _ _ ja.2 hc).mp (Option.some.inj q))
      by_cases c2 : ix (T 9 i) = c
      · have e3 : x_rn (mX7_touches F (some (ad 7 i)) (some (ad 1 c))) σ = some (1, σ) := by
          unfold mX7_touches
          refine q_rR kw (h.w0 _ hio).1 ?_
          refine q_rR qa sa ?_
          refine q_f ne1 ?_
          refine q_rR kw (h.w0 _ hio).2 ?_
          refine q_rR qb sb ?_
          refine q_t (by rw [c2]) ?_
          exact q_e
        have e4 : x_rn (mX7_queueFrom F (some (ad 7 i)) (some (ad 1 c))) σ = some (some (ad 5 (2 * i + 1)), σ) := by
          unfold mX7_queueFrom
          refine q_rR kw (h.w0 _ hio).1 ?_
          refine q_rR qa sa ?_
          refine q_f ne1 ?_
          refine q_rR kw (h.w0 _ hio).2 ?_
          exact q_e
        refine q_cl kw e3 ?_
        refine q_f (by decide) ?_
        refine q_cl kw e4 ?_
        refine q_rI qb (h.q2 (2 * i + 1) (by omega)) ?_
        refine q_p ?_
        refine q_p ?_
        rw [nI_1, nI_add]
        have e5 : sT (ql T Q c) (i + 1) = sT (ql T Q c) i + (Q (2 * i + 1)).length := congrArg (sT (ql T Q c) i + ·) ((if_neg c1).trans (if_pos c2))
        rw [e5] at e2
        exact e2
      · have ne2 : ¬ some (ad 1 (ix (T 9 i))) = some (ad 1 c) := fun q => c2 ((h.j1 _ _ jb.2 hc).mp (Option.some.inj q))
        have e3 : x_rn (mX7_touches F (some (ad 7 i)) (some (ad 1 c))) σ = some (0, σ) := by
          unfold mX7_touches
          refine q_rR kw (h.w0 _ hio).1 ?_
          refine q_rR qa sa ?_
          refine q_f ne1 ?_
          refine q_rR kw (h.w0 _ hio).2 ?_
          refine q_rR qb sb ?_
          refine q_f ne2 ?_
          exact q_e
        refine q_cl kw e3 ?_
        refine q_t rfl ?_
        refine q_p ?_
        rw [nI_1]
        have e5 : sT (ql T Q c) (i + 1) = sT (ql T Q c) i + 0 := congrArg (sT (ql T Q c) i + ·) ((if_neg c1).trans (if_neg c2))
        rw [e5] at e2
        exact e2
theorem t_queuedL (j : JT s T) (F : Nat) {c : Nat} (hc : c < cC T) : ∀ (k n i : Nat), i + k = cM T → k < n → tX9_at_96 F n (nI c) (nI (sT (fun m => if T 35 m = 0 ∧ ix (T 36 m) = c then 1 else 0) i)) (nI i) T = some (nI (sT (fun m => if T 35 m = 0 ∧ ix (T 36 m) = c then 1 else 0) (cM T)), T) := by
  have hM := j.nM
  have hC := j.nC
  have hT : T 30 0 = nI (cM T) := j.M.1
  intro k
  induction k with
  | zero =>
    intro n i hi hn
    obtain ⟨n, rfl⟩ : ∃ m, n = m + 1 := ⟨n - 1, by omega⟩
    have : i = cM T := by omega
    subst this
    rw [tX9_at_96]
    refine r_g rfl ?_
    refine r_t (by rw [hT]; exact nI_le (Nat.le_refl _) (by omega)) ?_
    rfl
  | succ k ih =>
    intro n i hi hn
    obtain ⟨n, rfl⟩ : ∃ m, n = m + 1 := ⟨n - 1, by omega⟩
    have hio : i < cM T := by omega
    have hi2 : i < 1000 := by omega
    obtain ⟨-, -, -, jo, -⟩ := j.me _ hio
    have e2 := ih n (i + 1) (by omega) (by omega)
    have ez : ∀ v : Int32, v + 0 = v := Int32.add_zero
    rw [tX9_at_96]
    refine r_g rfl ?_
    refine r_f (by rw [hT]; exact nI_ge hio (by omega)) ?_
    refine r_a rfl hi2 rfl ?_
    by_cases c1 : T 35 i = 0
    · refine r_t c1 ?_
      refine r_a rfl hi2 rfl ?_
      by_cases c2 : ix (T 36 i) = c
      · refine r_t (by rw [← c2]; exact jo.1) ?_
        refine r_q ?_
        refine r_q ?_
        rw [nI_1, nI_1]
        have e5 : sT (fun m => if T 35 m = 0 ∧ ix (T 36 m) = c then 1 else 0) (i + 1) = sT (fun m => if T 35 m = 0 ∧ ix (T 36 m) = c then 1 else 0) i + 1 := congrArg (sT (fun m => if T 35 m = 0 ∧ ix (T 36 m) = c then 1 else 0) i + ·) (if_pos ⟨c1, c2⟩)
        rw [e5] at e2
        exact e2
      · refine r_f (fun q => c2 (by rw [q, ix_nI (by omega)])) ?_
        refine r_q ?_
        refine r_q ?_
        rw [nI_1, ez]
        have e5 : sT (fun m => if T 35 m = 0 ∧ ix (T 36 m) = c then 1 else 0) (i + 1) = sT (fun m => if T 35 m = 0 ∧ ix (T 36 m) = c then 1 else 0) i + 0 := congrArg (sT (fun m => if T 35 m = 0 ∧ ix (T 36 m) = c then 1 else 0) i + ·) (if_neg (fun q => c2 q.2))
        rw [e5] at e2
        exact e2
    · refine r_f c1 ?_
      refine r_q ?_
      refine r_q ?_
      rw [nI_1, ez]
      have e5 : sT (fun m => if T 35 m = 0 ∧ ix (T 36 m) = c then 1 else 0) (i + 1) = sT (fun m => if T 35 m = 0 ∧ ix (T 36 m) = c then 1 else 0) i + 0 := congrArg (sT (fun m => if T 35 m = 0 ∧ ix (T 36 m) = c then 1 else 0) i + ·) (if_neg (fun q => c1 q.1))
      rw [e5] at e2
      exact e2
theorem p_at (h : INV b ad T Q σ) {F : Nat} (hF : 1000 < F) (x y : Int32) : SIM b (mX8_at F (some b) x y) (mX9_at F (some (b + 12)) x y) σ := by
  obtain ⟨hX, hM, hJ, hQ, -⟩ := id h
  have k1 := hX.fK.1
  have k2 := hX.fK.2.1
  have r1 := hX.fR.1
  have e1 := e_findCounter hX hJ F x
  have t1 := t_isCounter hJ F x
  by_cases c1 : 0 ≤ x ∧ x < T 1 0
  · obtain ⟨f1, f2⟩ := in_of hJ.C (by omega) c1
    have f3 : ix x < cC T := f2
    rw [fd_some c1] at e1
    have hc := hJ.nC
    have hO := hJ.nO
    have hM := hJ.nM
    have hW := hJ.nW
    have hx : ix x < 10 := by omega
    have kx := hX.k1 _ f3
    have n1 := bi_n c1
    by_cases q0 : y = 0
    · subst q0
      refine SIM.read (g := tX9_at F x 0) (r := T 2 (ix x)) h ?_ (fun hk => sX9_at hk F x 0) ?_
      · unfold mX8_at
        refine q_rR k1 r1 ?_
        refine q_cl k2 e1 ?_
        refine q_f n_some ?_
        refine q_t rfl ?_
        refine q_rI kx (hX.c3 _ f3) ?_
        exact q_e
      · unfold tX9_at
        refine r_st t1 ?_
        refine r_f n1 ?_
        refine r_t rfl ?_
        refine r_a f1 hx rfl ?_
        rfl
    by_cases q1 : y = 1
    · subst q1
      have eo := e_isOpen hX F f3 (T 0 0)
      have to := t_isOpen hJ F f3
      rw [← f1] at to
      refine SIM.read (g := tX9_at F x 1) (r := if bi (T 3 (ix x) ≤ x_rem (T 0 0) 1440 ∧ x_rem (T 0 0) 1440 < T 4 (ix x)) = 0 then 0 else 1) h ?_ (fun hk => sX9_at hk F x 1) ?_
      · unfold mX8_at
        refine q_rR k1 r1 ?_
        refine q_cl k2 e1 ?_
        refine q_f n_some ?_
        refine q_f q0 ?_
        refine q_t rfl ?_
        refine q_rI k1 hX.z806 ?_
        refine q_cl kx eo ?_
        refine q_st (e_oneIf _ _ _) ?_
        exact q_e
      · unfold tX9_at
        refine r_st t1 ?_
        refine r_f n1 ?_
        refine r_f q0 ?_
        refine r_t rfl ?_
        refine r_st to ?_
        split <;> rfl
    by_cases q2 : y = 2
    · subst q2
      have ea := e_awaitedL hX hJ F f3 (cO T) F 0 (by omega) (by omega)
      have tl := t_lackL hJ F f3 (-(T 2 (ix x))) (cO T) F 0 (by omega) (by omega)
      rw [← f1] at tl
      have z1 : aw T (ix x) 0 + -(T 2 (ix x)) = -(T 2 (ix x)) := Int32.zero_add _
      rw [z1] at tl
      have tl' : tX9_lack F x T = some (if aw T (ix x) (cO T) + -(T 2 (ix x)) ≤ 0 then 0 else aw T (ix x) (cO T) + -(T 2 (ix x)), T) := by
        unfold tX9_lack
        refine r_a f1 hx rfl ?_
        refine r_q ?_
        exact tl
      refine SIM.read (g := tX9_at F x 2) (r := if aw T (ix x) (cO T) + -(T 2 (ix x)) ≤ 0 then 0 else aw T (ix x) (cO T) + -(T 2 (ix x))) h ?_ (fun hk => sX9_at hk F x 2) ?_
      · unfold mX8_at
        refine q_rR k1 r1 ?_
        refine q_cl k2 e1 ?_
        refine q_f n_some ?_
        refine q_f q0 ?_
        refine q_f q1 ?_
        refine q_t rfl ?_
        refine q_cl k1 ea ?_
        refine q_rI kx (hX.c3 _ f3) ?_
        rw [x_max, Int32.sub_eq_add_neg]
        by_cases d : aw T (ix x) (cO T) + -(T 2 (ix x)) ≤ 0
        · rw [if_pos d, if_neg (i_nlt.mpr d)]; exact q_e
        · rw [if_neg d, if_pos (i_nle.mp d)]; exact q_e
      · unfold tX9_at
        refine r_st t1 ?_
        refine r_f n1 ?_
        refine r_f q0 ?_
        refine r_f q1 ?_
        refine r_t rfl ?_
        refine r_st tl' ?_
        rfl
    by_cases q3 : y = 3
    · subst q3
      refine SIM.read (g := tX9_at F x 3) (r := T 6 (ix x)) h ?_ (fun hk => sX9_at hk F x 3) ?_
      · unfold mX8_at
        refine q_rR k1 r1 ?_
        refine q_cl k2 e1 ?_
        refine q_f n_some ?_
        refine q_f q0 ?_
        refine q_f q1 ?_
        refine q_f q2 ?_
        refine q_t rfl ?_
        refine q_rI kx (hX.c4 _ f3) ?_
        exact q_e
      · unfold tX9_at
        refine r_st t1 ?_
        refine r_f n1 ?_
        refine r_f q0 ?_
        refine r_f q1 ?_
        refine r_f q2 ?_
        refine r_t rfl ?_
        refine r_a f1 hx rfl ?_
        rfl
    by_cases q4 : y = 4
    · subst q4
      refine SIM.read (g := tX9_at F x 4) (r := T 5 (ix x)) h ?_ (fun hk => sX9_at hk F x 4) ?_
      · unfold mX8_at
        refine q_rR k1 r1 ?_
        refine q_cl k2 e1 ?_
        refine q_f n_some ?_
        refine q_f q0 ?_
        refine q_f q1 ?_
        refine q_f q2 ?_
        refine q_f q3 ?_
        refine q_t rfl ?_
        refine q_rI kx (hX.c5 _ f3) ?_
        exact q_e
      · unfold tX9_at
        refine r_st t1 ?_
        refine r_f n1 ?_
        refine r_f q0 ?_
        refine r_f q1 ?_
        refine r_f q2 ?_
        refine r_f q3 ?_
        refine r_t rfl ?_
        refine r_a f1 hx rfl ?_
        rfl
    by_cases q5 : y = 5
    · subst q5
      have eq := e_queuedL hX hJ F f3 (cW T) F 0 (by omega) (by omega)
      have tq := t_queuedL hJ F f3 (cM T) F 0 (by omega) (by omega)
      rw [← f1] at tq
      rw [ql_eq hJ hQ] at eq
      refine SIM.read (g := tX9_at F x 5) (r := nI (sT (fun m => if T 35 m = 0 ∧ ix (T 36 m) = ix x then 1 else 0) (cM T))) h ?_ (fun hk => sX9_at hk F x 5) ?_
      · unfold mX8_at
        refine q_rR k1 r1 ?_
        refine q_cl k2 e1 ?_
        refine q_f n_some ?_
        refine q_f q0 ?_
        refine q_f q1 ?_
        refine q_f q2 ?_
        refine q_f q3 ?_
        refine q_f q4 ?_
        refine q_t rfl ?_
        refine q_rR k1 r1 ?_
        refine q_cl k2 eq ?_
        exact q_e
      · unfold tX9_at
        refine r_st t1 ?_
        refine r_f n1 ?_
        refine r_f q0 ?_
        refine r_f q1 ?_
        refine r_f q2 ?_
        refine r_f q3 ?_
        refine r_f q4 ?_
        refine r_t rfl ?_
        exact tq
    refine SIM.read (g := tX9_at F x y) (r := -2147483648) h ?_ (fun hk => sX9_at hk F x y) ?_
    · unfold mX8_at
      refine q_rR k1 r1 ?_
      refine q_cl k2 e1 ?_
      refine q_f n_some ?_
      refine q_f q0 ?_
      refine q_f q1 ?_
      refine q_f q2 ?_
      refine q_f q3 ?_
      refine q_f q4 ?_
      refine q_f q5 ?_
      exact q_e
    · unfold tX9_at
      refine r_st t1 ?_
      refine r_f n1 ?_
      refine r_f q0 ?_
      refine r_f q1 ?_
      refine r_f q2 ?_
      refine r_f q3 ?_
      refine r_f q4 ?_
      refine r_f q5 ?_
      rfl
  · rw [fd_none.mpr c1] at e1
    refine SIM.read (g := tX9_at F x y) (r := -2147483648) h ?_ (fun hk => sX9_at hk F x y) ?_
    · unfold mX8_at
      refine q_rR k1 r1 ?_
      refine q_cl k2 e1 ?_
      refine q_t rfl ?_
      exact q_e
    · unfold tX9_at
      refine r_st t1 ?_
      refine r_t (bi_z c1) ?_
      rfl
end PAt
