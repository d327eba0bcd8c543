section PMv
variable {b : Nat} {ad : Ad} {T T2 : Tb} {Q : Qs} {σ : PH} {s k : Nat}
theorem x_up_up {α : Type} (f : Nat → Nat → α) (i j : Nat) (u v : α) : x_up (x_up f i j u) i j v = x_up f i j v := by
  funext x y
  simp only [x_upA]
  by_cases h : x = i ∧ y = j
  · simp only [h, and_self, if_true]
  · simp only [h, if_false]
theorem x_up_id {α : Type} (f : Nat → Nat → α) (i j : Nat) : x_up f i j (f i j) = f := by
  funext x y
  simp only [x_upA]
  by_cases h : x = i ∧ y = j
  · rw [if_pos h, h.1, h.2]
  · rw [if_neg h]
theorem JT.requeue (h : JT s T) (hs : s ≤ 1000) {m w : Nat} (hm : m < cM T) (h1 : T 35 m = 1) (hw : w < cW T) (he : ix (T 8 w) = ix (T 36 m) ∨ ix (T 9 w) = ix (T 36 m)) : JT (s + 1) (tq T m (T 36 m) w) := by
  have hcM := h.nM
  have hnow := h.nw.2
  have hcW := h.nW
  have e46 : T 46 0 + 1 = nI (ix (T 46 0) + 1) := by rw [← nI_1, ← h.pu.1]
  have b46 := h.pu.2
  have i46 : ix (T 46 0 + 1) = ix (T 46 0) + 1 := by rw [e46, ix_nI (by omega)]
  obtain ⟨hC, hW, hB, hO, hM, hnw, hpu, hop, hwi, hls, hdg, hrl, hsp, hor, hme, hmq, hmw, hmr, hfC, hfW, hfO, hfM, hkn⟩ := h
  exact ⟨hC, hW, hB, hO, hM, hnw, (by
    show isN (T 46 0 + 1) (cM T + 1000 * ix (T 0 0) + (s + 1) + 1)
    rw [e46]; exact isN.of (by omega) (by omega)), hop, hwi, hls, hdg, hrl, hsp, hor, (fun i hi => by
    obtain ⟨g1, g2, g3, g4, g5, g6⟩ := hme i hi
    refine ⟨g1, g2, g3, ?_, ?_, ?_⟩
    · show isN (x_up T 36 m (T 36 m) 36 i) (cC T)
      rw [x_up_id]; exact g4
    · show isN (x_up T 38 m (T 46 0) 38 i) (ix (T 46 0 + 1))
      rw [i46]
      by_cases e : i = m
      · rw [e, x_up_s]; exact ⟨hpu.1, by omega⟩
      · rw [x_up_n _ _ _ _ (fun q => e q.2)]; exact g5.mono (by omega)
    · show x_up T 35 m 0 35 i = 0 ∨ x_up T 35 m 0 35 i = 1 ∨ x_up T 35 m 0 35 i = 2
      by_cases e : i = m
      · rw [e, x_up_s]; exact Or.inl rfl
      · rw [x_up_n _ _ _ _ (fun q => e q.2)]; exact g6), (fun i hi hq => by
    show isN (x_up T 37 m (nI w) 37 i) (cW T) ∧ (ix (x_up T 36 m (T 36 m) 36 i) = ix (T 8 (ix (x_up T 37 m (nI w) 37 i))) ∨ ix (x_up T 36 m (T 36 m) 36 i) = ix (T 9 (ix (x_up T 37 m (nI w) 37 i))))
    rw [x_up_id]
    by_cases e : i = m
    · subst e
      rw [x_up_s, ix_nI (by omega)]
      refine ⟨isN.of hw (by omega), ?_⟩
      rcases he with q | q
      · exact Or.inl q.symm
      · exact Or.inr q.symm
    · have hq' : x_up T 35 m 0 35 i = 0 := hq
      rw [x_up_n _ _ _ _ (fun q => e q.2)] at hq' ⊢
      exact hmq i hi hq'), (fun i hi hq => by
    have hq' : x_up T 35 m 0 35 i = 1 := hq
    by_cases e : i = m
    · rw [e, x_up_s] at hq'; exact absurd hq' (by decide)
    · rw [x_up_n _ _ _ _ (fun q => e q.2)] at hq'; exact hmw i hi hq'), (fun i hi => by
    show (x_up T 35 m 0 35 i ≠ 2 → Dm T (ix (x_up T 36 m (T 36 m) 36 i)) (ix (T 34 i)) < 1000000 ∧ T 40 i = -1) ∧ (x_up T 35 m 0 35 i = 2 → T 40 i ≠ -1)
    rw [x_up_id]
    by_cases e : i = m
    · subst e
      rw [x_up_s]
      exact ⟨fun _ => (hmr i hi).1 (by rw [h1]; decide), fun q => absurd q (by decide)⟩
    · rw [x_up_n _ _ _ _ (fun q => e q.2)]; exact hmr i hi), hfC, hfW, hfO, hfM, hkn⟩
theorem INX.requeue (h : INX s k b ad T Q T2 σ) (hs : s ≤ 1000) {F : Nat} (hF : 15 < F) {m : Nat} (hm : m < cM T) (h1 : T 35 m = 1) (hne : ix (T 36 m) ≠ ix (T 34 m)) : ∃ σ1 σ2 w, x_rn (mX2_leaveWire F (some (ad 2 m))) σ = some ((), σ1) ∧ RX b ad (x_up T 35 m 2) Q σ1 ∧ x_rn (mX8_enqueue F (some b) (some (ad 2 m))) σ1 = some ((), σ2) ∧ tX9_queues F (nI m) (T 36 m) T = some ((), tq T m (T 36 m) w) ∧ INX (s + 1) k b ad (tq T m (T 36 m) w) (qa Q (kq T w (ix (T 36 m))) m) T2 σ2 ∧ x_I σ2 807 b = x_I σ 807 b := by
  obtain ⟨hX, hM, hJ, hQ, hA, hY, hR⟩ := h
  obtain ⟨σ1, e1, X1, S1⟩ := e_leave hX F hm h1
  obtain ⟨-, -, j34, j36, j38, -⟩ := hJ.me m hm
  have hC := hJ.nC
  have hMM := hJ.nM
  have q34 := j34.2
  have q36 := j36.2
  obtain ⟨w, hw⟩ := way_ex hJ (i := ix (T 36 m)) (j := ix (T 34 m)) (by omega) (by omega) hne ((hJ.mr m hm).1 (by rw [h1]; decide)).1
  obtain ⟨wl, wc⟩ := nwf_some hw
  obtain ⟨o, wo, -⟩ := cd_ot wc
  have wen : ix (T 8 w) = ix (T 36 m) ∨ ix (T 9 w) = ix (T 36 m) := by
    rcases ot_end wo with q | q
    · exact Or.inl q.1
    · exact Or.inr q.1
  have hmQ : ∀ x, x < 2 * cW T → m ∉ Q x := fun x hx q => by
    have := ((hQ.1 x hx m).mp q).2.1
    rw [h1] at this; exact absurd this (by decide)
  have hY1 : WY b ad (x_up T 35 m 2) σ1 := hY.congr rfl rfl rfl rfl rfl S1.1
  have hw1 : nwf (x_up T 35 m 2) (ix (T 36 m)) (ix (T 34 m)) (cW T) = some w := (nwf_congr (T := T) (T' := x_up T 35 m 2) rfl rfl rfl rfl _ _ _).trans hw
  have hkl : kq T w (ix (T 36 m)) < 2 * cW T := kq_lt wl
  obtain ⟨σ2, e2, X2, S2⟩ := e_enqueue X1 hY1 (hJ.nt : NT (x_up T 35 m 2)) F (m := m) (w := w) hm (x_up_s _ _ _ _) q36 q34 hw1 ⟨hQ.lt, hmQ, fun x hx hxk i hi => hQ.dis hJ.nt hx hkl hxk hi, hQ.nd hkl, fun i hi => by
    have ne : i ≠ m := fun q => hmQ _ hkl (q ▸ hi)
    rw [x_up_n _ _ _ _ (fun q => ne q.2)]
    exact ((hQ.1 _ hkl i).mp hi).2.1⟩
  have tqq := t_queues hJ.nt hF (m := m) (p := ix (T 36 m)) (by omega) q36 j34 hw
  rw [← j36.1] at tqq
  have S := S1.trans S2
  refine ⟨σ1, σ2, w, e1, X1, e2, tqq, ⟨?_, S.2.2.2.2 b T2 hM, hJ.requeue hs hm h1 wl wen, ?_, ?_, hY.congr rfl rfl rfl rfl rfl S.1, ?_⟩, S.2.2.2.1 b⟩
  · rw [x_up_up] at X2
    have X3 := ((X2.t37 m (nI w)).t38 m (T 46 0)).t46 0 (T 46 0 + 1)
    have e : tq T m (T 36 m) w = x_up (x_up (x_up (x_up T 35 m 0) 37 m (nI w)) 38 m (T 46 0)) 46 0 (T 46 0 + 1) := by
      unfold tq
      rw [show x_up (x_up T 35 m 0) 36 m (T 36 m) = x_up T 35 m 0 from x_up_id (x_up T 35 m 0) 36 m]
    rw [e]
    exact X3
  · refine hQ.add (T' := tq T m (T 36 m) w) (m := m) rfl (fun l _ => Iff.rfl) hm (fun l hl => ⟨?_, ?_, ?_, ?_⟩) (fun _ => rfl) hmQ hkl ?_ ?_ ?_ (fun w hw => (hJ.wi w hw).2.2.1) (fun l hl => ?_)
    · exact x_up_n T 35 m 0 (fun q => hl q.2)
    · exact x_up_n T 36 m (T 36 m) (fun q => hl q.2)
    · exact x_up_n T 37 m (nI w) (fun q => hl q.2)
    · exact x_up_n T 38 m (T 46 0) (fun q => hl q.2)
    · exact x_up_s T 35 m 0
    · show ix (x_up T 37 m (nI w) 37 m) = _
      have := hJ.nW
      rw [x_up_s, kq_d, ix_nI (by omega)]
    · show ix (x_up T 36 m (T 36 m) 36 m) = _
      rw [x_up_s, kq_en wen]
    · show _ < ix (x_up T 38 m (T 46 0) 38 m)
      rw [x_up_s]
      exact ((hJ.me l ((hQ.1 _ hkl l).mp hl).1).2.2.2.2.1).2
  · intro i hi hk hq
    have hq' : x_up T 35 m 0 35 i = 1 := hq
    rw [S.2.2.2.1]
    by_cases e : i = m
    · rw [e, x_up_s] at hq'; exact absurd hq' (by decide)
    · rw [x_up_n _ _ _ _ (fun q => e q.2)] at hq'; exact hA i hi hk hq'
  · obtain ⟨g1, g2, g3⟩ := hR
    exact ⟨by rw [S.2.1]; exact g1, by rw [S.2.1]; exact g2, by rw [S.2.2.1]; exact g3⟩
/-- a message that came to its end -/
def tr (T : Tb) (m : Nat) : Tb := x_up (x_up (x_up T 35 m 2) 36 m (T 34 m)) 40 m (T 0 0)
theorem JT.arrive (h : JT s T) {m : Nat} (hm : m < cM T) : JT s (tr T m) := by
  have nn : T 0 0 ≠ -1 := by
    intro q
    have := h.nw.ti (by omega)
    rw [q] at this
    have e : (-1 : Int32).toInt = -1 := rfl
    omega
  obtain ⟨hC, hW, hB, hO, hM, hnw, hpu, hop, hwi, hls, hdg, hrl, hsp, hor, hme, hmq, hmw, hmr, hfC, hfW, hfO, hfM, hkn⟩ := h
  exact ⟨hC, hW, hB, hO, hM, hnw, hpu, hop, hwi, hls, hdg, hrl, hsp, hor, (fun i hi => by
    obtain ⟨g1, g2, g3, g4, g5, g6⟩ := hme i hi
    refine ⟨g1, g2, g3, ?_, g5, ?_⟩
    · show isN (x_up T 36 m (T 34 m) 36 i) (cC T)
      by_cases e : i = m
      · subst e; rw [x_up_s]; exact g3
      · rw [x_up_n _ _ _ _ (fun q => e q.2)]; exact g4
    · show x_up T 35 m 2 35 i = 0 ∨ x_up T 35 m 2 35 i = 1 ∨ x_up T 35 m 2 35 i = 2
      by_cases e : i = m
      · rw [e, x_up_s]; exact Or.inr (Or.inr rfl)
      · rw [x_up_n _ _ _ _ (fun q => e q.2)]; exact g6), (fun i hi hq => by
    have hq' : x_up T 35 m 2 35 i = 0 := hq
    show isN (T 37 i) (cW T) ∧ (ix (x_up T 36 m (T 34 m) 36 i) = ix (T 8 (ix (T 37 i))) ∨ ix (x_up T 36 m (T 34 m) 36 i) = ix (T 9 (ix (T 37 i))))
    by_cases e : i = m
    · rw [e, x_up_s] at hq'; exact absurd hq' (by decide)
    · rw [x_up_n _ _ _ _ (fun q => e q.2)] at hq' ⊢; exact hmq i hi hq'), (fun i hi hq => by
    have hq' : x_up T 35 m 2 35 i = 1 := hq
    by_cases e : i = m
    · rw [e, x_up_s] at hq'; exact absurd hq' (by decide)
    · rw [x_up_n _ _ _ _ (fun q => e q.2)] at hq'; exact hmw i hi hq'), (fun i hi => by
    show (x_up T 35 m 2 35 i ≠ 2 → Dm T (ix (x_up T 36 m (T 34 m) 36 i)) (ix (T 34 i)) < 1000000 ∧ x_up T 40 m (T 0 0) 40 i = -1) ∧ (x_up T 35 m 2 35 i = 2 → x_up T 40 m (T 0 0) 40 i ≠ -1)
    by_cases e : i = m
    · subst e
      rw [x_up_s, x_up_s, x_up_s]
      exact ⟨fun q => absurd rfl q, fun _ => nn⟩
    · rw [x_up_n _ _ _ _ (fun q => e q.2), x_up_n _ _ _ _ (fun q => e q.2), x_up_n _ _ _ _ (fun q => e q.2)]; exact hmr i hi), hfC, hfW, hfO, hfM, hkn⟩
theorem INX.arrive (h : INX s k b ad T Q T2 σ) (F : Nat) {m : Nat} (hm : m < cM T) (h1 : T 35 m = 1) (heq : T 36 m = T 34 m) : ∃ σ1, x_rn (mX2_leaveWire F (some (ad 2 m))) σ = some ((), σ1) ∧ RX b ad (x_up T 35 m 2) Q σ1 ∧ INX s k b ad (tr T m) Q T2 (x_uI σ1 208 (ad 2 m) (T 0 0)) ∧ x_I σ1 807 b = x_I σ 807 b := by
  obtain ⟨hX, hM, hJ, hQ, hA, hY, hR⟩ := h
  obtain ⟨σ1, e1, X1, S1⟩ := e_leave hX F hm h1
  have X2 := X1.u40 (j := m) hm (T 0 0)
  have S := S1.uI 208 (ad 2 m) (T 0 0) (by decide)
  refine ⟨σ1, e1, X1, ⟨?_, S.2.2.2.2 b T2 hM, hJ.arrive hm, ?_, ?_, hY.congr rfl rfl rfl rfl rfl S.1, ?_⟩, S1.2.2.2.1 b⟩
  · have e : tr T m = x_up (x_up T 35 m 2) 40 m (T 0 0) := by
      unfold tr
      rw [← heq, show x_up (x_up T 35 m 2) 36 m (T 36 m) = x_up T 35 m 2 from x_up_id (x_up T 35 m 2) 36 m]
    rw [e]
    exact X2
  · have key : ∀ x l, (l < cM T ∧ T 35 l = 0 ∧ ix (T 37 l) = x / 2 ∧ ix (T 36 l) = en T x) ↔ (l < cM T ∧ x_up T 35 m 2 35 l = 0 ∧ ix (T 37 l) = x / 2 ∧ ix (x_up T 36 m (T 34 m) 36 l) = en T x) := by
      intro x l
      by_cases e : l = m
      · subst e
        rw [x_up_s, h1]
        constructor
        · rintro ⟨-, q, -⟩; exact absurd q (by decide)
        · rintro ⟨-, q, -⟩; exact absurd q (by decide)
      · rw [x_up_n _ _ _ _ (fun q => e q.2), x_up_n _ _ _ _ (fun q => e q.2)]
    exact ⟨fun x hx l => (hQ.1 x hx l).trans (key x l), hQ.2⟩
  · intro i hi hk hq
    have hq' : x_up T 35 m 2 35 i = 1 := hq
    rw [S.2.2.2.1]
    by_cases e : i = m
    · rw [e, x_up_s] at hq'; exact absurd hq' (by decide)
    · rw [x_up_n _ _ _ _ (fun q => e q.2)] at hq'; exact hA i hi hk hq'
  · obtain ⟨g1, g2, g3⟩ := hR
    exact ⟨by rw [S.2.1]; exact g1, by rw [S.2.1]; exact g2, by rw [S.2.2.1]; exact g3⟩
/-! finite ways are short -/
theorem sT_le {f g : Nat → Nat} {n : Nat} (h : ∀ i, i < n → f i ≤ g i) : sT f n ≤ sT g n := by
  induction n with
  | zero => exact Nat.le_refl _
  | succ n ih => have := ih (fun i hi => h i (by omega)); have := h n (by omega); simp only [sT]; omega
theorem sT_lt {f g : Nat → Nat} {n j : Nat} (hj : j < n) (h : ∀ i, i < n → f i ≤ g i) (hl : f j < g j) : sT f n < sT g n := by
  induction n with
  | zero => omega
  | succ n ih =>
    simp only [sT]
    by_cases e : j = n
    · subst e
      have := sT_le (n := j) (fun i hi => h i (by omega)); omega
    · have := ih (by omega) (fun i hi => h i (by omega))
      have := h n (by omega); omega
theorem Dm_small (hJ : JT s T) {j : Nat} (hj : j < 10) : ∀ (d i : Nat), Dm T i j = d → i < 10 → d < 1000000 → d ≤ 60 * sT (fun k => if Dm T k j < d then 1 else 0) 10 := by
  intro d
  induction d using Nat.strongRecOn with
  | _ d ih =>
    intro i e hi hd
    by_cases c : i = j
    · have := hJ.dg j hj; rw [c] at e; omega
    · obtain ⟨w, hw, h⟩ := hJ.sp i j hi hj c (by omega)
      obtain ⟨w8, w9, -, w10, w1, -⟩ := hJ.wi w hw
      have hC := hJ.nC
      have x8 := w8.2
      have x9 := w9.2
      have x10 := w10.2
      have key : ∀ l, l < 10 → Dm T l j + ix (T 10 w) = d → d ≤ 60 * sT (fun k => if Dm T k j < d then 1 else 0) 10 := by
        intro l hl hq
        have := ih (Dm T l j) (by omega) l rfl hl (by omega)
        have := sT_lt (f := fun k => if Dm T k j < Dm T l j then 1 else 0) (g := fun k => if Dm T k j < d then 1 else 0) hl (fun k _ => by
          split
          · rw [if_pos (by omega)]; exact Nat.le_refl _
          · exact Nat.zero_le _) (by rw [if_neg (by omega), if_pos (by omega)]; omega)
        omega
      rcases h with ⟨q1, q2⟩ | ⟨q1, q2⟩
      · exact key (ix (T 9 w)) (by omega) (by omega)
      · exact key (ix (T 8 w)) (by omega) (by omega)
theorem Dm_le (hJ : JT s T) {i j : Nat} (hi : i < 10) (hj : j < 10) (h : Dm T i j < 1000000) : Dm T i j ≤ 600 := by
  have := Dm_small hJ hj _ i rfl hi h
  have h2 := sT_le (f := fun k => if Dm T k j < Dm T i j then 1 else 0) (g := fun _ => 1) (n := 10) (fun k _ => by split <;> omega)
  have h3 : sT (fun _ => 1) 10 = 10 := rfl
  omega
end PMv
