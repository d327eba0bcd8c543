section PQ
variable {b : Nat} {ad : Ad} {T : Tb} {Q : Qs} {σ : PH} {s k : Nat}
theorem ite_iff {α : Type} {p q : Prop} [Decidable p] [Decidable q] (h : p ↔ q) (a b : α) : (if p then a else b) = (if q then a else b) := by
  by_cases hp : p
  · rw [if_pos hp, if_pos (h.mp hp)]
  · rw [if_neg hp, if_neg (fun x => hp (h.mpr x))]
def qa (Q : Qs) (k m : Nat) : Qs := fun x => if x = k then Q k ++ [m] else Q x
def qd (Q : Qs) (k : Nat) (L : List Nat) : Qs := fun x => if x = k then L else Q x
theorem qa_s {m : Nat} : qa Q k m k = Q k ++ [m] := if_pos rfl
theorem qa_n {m x : Nat} (h : ¬ x = k) : qa Q k m x = Q x := if_neg h
theorem qd_s {L : List Nat} : qd Q k L k = L := if_pos rfl
theorem qd_n {L : List Nat} {x : Nat} (h : ¬ x = k) : qd Q k L x = Q x := if_neg h
/-- nothing else is touched -/
def SM (σ σ' : PH) : Prop := x_Q σ' = x_Q σ ∧ x_N σ' = x_N σ ∧ x_U σ' = x_U σ ∧ (∀ a, x_I σ' 807 a = x_I σ 807 a) ∧ ∀ b T2, RM b T2 σ → RM b T2 σ'
theorem SM.refl (σ : PH) : SM σ σ := ⟨rfl, rfl, rfl, fun _ => rfl, fun _ _ h => h⟩
theorem SM.uI {σ σ' : PH} (h : SM σ σ') (f a : Nat) (v : Int32) (hf : f < 900 ∧ f ≠ 807) : SM σ (x_uI σ' f a v) := by
  obtain ⟨h1, h2, h3, h4, h5⟩ := h
  refine ⟨h1, h2, h3, fun x => ?_, fun b T2 g => (h5 b T2 g).uI v hf.1⟩
  rw [I_uI, if_neg (fun q => hf.2 q.1.symm)]; exact h4 x
theorem SM.uR {σ σ' : PH} (h : SM σ σ') (f a : Nat) (v : Option Nat) (hf : f < 900) : SM σ (x_uR σ' f a v) := by
  obtain ⟨h1, h2, h3, h4, h5⟩ := h
  exact ⟨h1, h2, h3, h4, fun b T2 g => (h5 b T2 g).uR v hf⟩
theorem SM.trans {σ σ' σ'' : PH} (h : SM σ σ') (g : SM σ' σ'') : SM σ σ'' := by
  obtain ⟨h1, h2, h3, h4, h5⟩ := h
  obtain ⟨g1, g2, g3, g4, g5⟩ := g
  exact ⟨g1.trans h1, g2.trans h2, g3.trans h3, fun a => (g4 a).trans (h4 a), fun b T2 x => g5 b T2 (h5 b T2 x)⟩
theorem RX.leave (h : RX b ad T Q σ) {m : Nat} (hm : m < cM T) (h1 : T 35 m = 1) : RX b ad (x_up T 35 m 2) Q (x_uI (x_uR (x_uR σ 205 (ad 2 m) (some (ad 1 (ix (T 36 m))))) 206 (ad 2 m) none) 207 (ad 2 m) (-1)) := by
  obtain ⟨hfK, hfL, hfR, hwf, hk1, hk2, hk4, hk5, hk7, hk6, hkd, hj1, hj2, hj4, hj5, hj7, hj6, hjd, hc0, hc1, hc2, hc3, hc4, hc5, hw0, hw2, hw3, hw4, hq0, hq2, hq3, hq4, hqn, hqz, ho0, ho1, ho3, ho4, ho5, ho6, ho7, ho8, ho9, ho10, ho11, ho12, hm0, hm1, hm2, hm3, hm4, hm5, hm6, hm7, hm8, hm9, hs0, hs2, hs3, hs1, hsd, hz804, hz805, hz806, hz808, hz809, hz810, hz300, hz301, hz2, ha1, ha7, ha4, ha2, hab, haf, hal⟩ := h
  exact ⟨hfK, hfL, hfR, hwf, hk1, hk2, hk4, hk5, hk7, hk6, hkd, hj1, hj2, hj4, hj5, hj7, hj6, hjd, hc0, hc1, hc2, hc3, hc4, hc5, hw0, hw2, hw3, hw4, hq0, hq2, hq3, hq4, hqn, (fun i hi hq => by
    show x_R σ 210 (ad 2 i) = none
    by_cases e : i = m
    · rw [e]; exact hqz m hm (by rw [h1]; decide)
    · rw [x_up_n _ _ _ _ (fun q => e q.2)] at hq; exact hqz i hi hq), ho0, ho1, ho3, ho4, ho5, ho6, ho7, ho8, ho9, ho10, ho11, ho12, hm0, hm1, hm2, hm3, hm4, (fun i hi => by
    show (if 205 = 205 ∧ ad 2 i = ad 2 m then some (ad 1 (ix (T 36 m))) else x_R σ 205 (ad 2 i)) = (if x_up T 35 m 2 35 i = 1 then none else some (ad 1 (ix (T 36 i))))
    by_cases e : i = m
    · subst e; rw [if_pos ⟨rfl, rfl⟩, x_up_s, if_neg (by decide)]
    · rw [if_neg (fun q => e ((hj2 i m hi hm).mp q.2)), x_up_n _ _ _ _ (fun q => e q.2)]; exact hm5 i hi), (fun i hi => by
    show (if 206 = 206 ∧ ad 2 i = ad 2 m then none else x_R σ 206 (ad 2 i)) = (if x_up T 35 m 2 35 i = 1 then some (ad 1 (ix (T 36 i))) else none)
    by_cases e : i = m
    · subst e; rw [if_pos ⟨rfl, rfl⟩, x_up_s, if_neg (by decide)]
    · rw [if_neg (fun q => e ((hj2 i m hi hm).mp q.2)), x_up_n _ _ _ _ (fun q => e q.2)]; exact hm6 i hi), (fun i hi hq => by
    show (if 207 = 207 ∧ ad 2 i = ad 2 m then -1 else x_I σ 207 (ad 2 i)) = T 39 i
    by_cases e : i = m
    · subst e; rw [x_up_s] at hq; exact absurd hq (by decide)
    · rw [x_up_n _ _ _ _ (fun q => e q.2)] at hq
      rw [if_neg (fun q => e ((hj2 i m hi hm).mp q.2))]; exact hm7 i hi hq), hm8, hm9, hs0, hs2, hs3, hs1, hsd, hz804, hz805, hz806, hz808, hz809, hz810, hz300, hz301, hz2, ha1, ha7, ha4, ha2, hab, haf, hal⟩
theorem RX.enter (h : RX b ad T Q σ) {m : Nat} (hm : m < cM T) (h1 : T 35 m = 2) (v p : Int32) : RX b ad (x_up (x_up (x_up T 35 m 1) 39 m v) 36 m p) Q (x_uI (x_uR (x_uR σ 205 (ad 2 m) none) 206 (ad 2 m) (some (ad 1 (ix p)))) 207 (ad 2 m) v) := by
  obtain ⟨hfK, hfL, hfR, hwf, hk1, hk2, hk4, hk5, hk7, hk6, hkd, hj1, hj2, hj4, hj5, hj7, hj6, hjd, hc0, hc1, hc2, hc3, hc4, hc5, hw0, hw2, hw3, hw4, hq0, hq2, hq3, hq4, hqn, hqz, ho0, ho1, ho3, ho4, ho5, ho6, ho7, ho8, ho9, ho10, ho11, ho12, hm0, hm1, hm2, hm3, hm4, hm5, hm6, hm7, hm8, hm9, hs0, hs2, hs3, hs1, hsd, hz804, hz805, hz806, hz808, hz809, hz810, hz300, hz301, hz2, ha1, ha7, ha4, ha2, hab, haf, hal⟩ := h
  exact ⟨hfK, hfL, hfR, hwf, hk1, hk2, hk4, hk5, hk7, hk6, hkd, hj1, hj2, hj4, hj5, hj7, hj6, hjd, hc0, hc1, hc2, hc3, hc4, hc5, hw0, hw2, hw3, hw4, hq0, hq2, hq3, hq4, hqn, (fun i hi hq => by
    show x_R σ 210 (ad 2 i) = none
    by_cases e : i = m
    · rw [e]; exact hqz m hm (by rw [h1]; decide)
    · have hq' : x_up T 35 m 1 35 i ≠ 0 := hq
      rw [x_up_n _ _ _ _ (fun q => e q.2)] at hq'; exact hqz i hi hq'), ho0, ho1, ho3, ho4, ho5, ho6, ho7, ho8, ho9, ho10, ho11, ho12, hm0, hm1, hm2, hm3, hm4, (fun i hi => by
    show (if 205 = 205 ∧ ad 2 i = ad 2 m then none else x_R σ 205 (ad 2 i)) = (if x_up T 35 m 1 35 i = 1 then none else some (ad 1 (ix (x_up T 36 m p 36 i))))
    by_cases e : i = m
    · subst e; rw [if_pos ⟨rfl, rfl⟩, x_up_s, if_pos rfl]
    · rw [if_neg (fun q => e ((hj2 i m hi hm).mp q.2)), x_up_n _ _ _ _ (fun q => e q.2), x_up_n _ _ _ _ (fun q => e q.2)]; exact hm5 i hi), (fun i hi => by
    show (if 206 = 206 ∧ ad 2 i = ad 2 m then some (ad 1 (ix p)) else x_R σ 206 (ad 2 i)) = (if x_up T 35 m 1 35 i = 1 then some (ad 1 (ix (x_up T 36 m p 36 i))) else none)
    by_cases e : i = m
    · subst e; rw [if_pos ⟨rfl, rfl⟩, x_up_s, if_pos rfl, x_up_s]
    · rw [if_neg (fun q => e ((hj2 i m hi hm).mp q.2)), x_up_n _ _ _ _ (fun q => e q.2), x_up_n _ _ _ _ (fun q => e q.2)]; exact hm6 i hi), (fun i hi hq => by
    show (if 207 = 207 ∧ ad 2 i = ad 2 m then v else x_I σ 207 (ad 2 i)) = x_up T 39 m v 39 i
    by_cases e : i = m
    · subst e; rw [if_pos ⟨rfl, rfl⟩, x_up_s]
    · have hq' : x_up T 35 m 1 35 i = 1 := hq
      rw [x_up_n _ _ _ _ (fun q => e q.2)] at hq'
      rw [if_neg (fun q => e ((hj2 i m hi hm).mp q.2)), x_up_n _ _ _ _ (fun q => e q.2)]; exact hm7 i hi hq'), hm8, hm9, hs0, hs2, hs3, hs1, hsd, hz804, hz805, hz806, hz808, hz809, hz810, hz300, hz301, hz2, ha1, ha7, ha4, ha2, hab, haf, hal⟩
theorem RX.enq0 (h : RX b ad T Q σ) {m : Nat} (hm : m < cM T) (h2 : T 35 m = 2) (hk : k < 2 * cW T) (hmt : Q k = []) : RX b ad (x_up T 35 m 0) (qa Q k m) (x_uI (x_uR (x_uR σ 503 (ad 5 k) (some (ad 2 m))) 504 (ad 5 k) (some (ad 2 m))) 502 (ad 5 k) (nI (Q k).length + 1)) := by
  have h35 : ∀ i, (T 35 i = 1) ↔ (x_up T 35 m 0 35 i = 1) := fun i => by
    by_cases e : i = m
    · subst e; rw [x_up_s, h2]; decide
    · rw [x_up_n _ _ _ _ (fun q => e q.2)]
  obtain ⟨hfK, hfL, hfR, hwf, hk1, hk2, hk4, hk5, hk7, hk6, hkd, hj1, hj2, hj4, hj5, hj7, hj6, hjd, hc0, hc1, hc2, hc3, hc4, hc5, hw0, hw2, hw3, hw4, hq0, hq2, hq3, hq4, hqn, hqz, ho0, ho1, ho3, ho4, ho5, ho6, ho7, ho8, ho9, ho10, ho11, ho12, hm0, hm1, hm2, hm3, hm4, hm5, hm6, hm7, hm8, hm9, hs0, hs2, hs3, hs1, hsd, hz804, hz805, hz806, hz808, hz809, hz810, hz300, hz301, hz2, ha1, ha7, ha4, ha2, hab, haf, hal⟩ := h
  exact ⟨hfK, hfL, hfR, hwf, hk1, hk2, hk4, hk5, hk7, hk6, hkd, hj1, hj2, hj4, hj5, hj7, hj6, hjd, hc0, hc1, hc2, hc3, hc4, hc5, hw0, hw2, hw3, hw4, hq0, (fun x hx => by
    show (if 502 = 502 ∧ ad 5 x = ad 5 k then nI (Q k).length + 1 else x_I σ 502 (ad 5 x)) = nI (qa Q k m x).length
    by_cases e : x = k
    · subst e; rw [if_pos ⟨rfl, rfl⟩, qa_s, List.length_append, nI_1]; rfl
    · rw [if_neg (fun q => e ((hj5 x k hx hk).mp q.2)), qa_n e]; exact hq2 x hx), (fun x hx => by
    show (if 503 = 503 ∧ ad 5 x = ad 5 k then some (ad 2 m) else x_R σ 503 (ad 5 x)) = (qa Q k m x).head?.map (ad 2)
    by_cases e : x = k
    · subst e; rw [if_pos ⟨rfl, rfl⟩, qa_s, hmt]; rfl
    · rw [if_neg (fun q => e ((hj5 x k hx hk).mp q.2)), qa_n e]; exact hq3 x hx), (fun x hx => by
    show (if 504 = 504 ∧ ad 5 x = ad 5 k then some (ad 2 m) else x_R σ 504 (ad 5 x)) = (qa Q k m x).getLast?.map (ad 2)
    by_cases e : x = k
    · subst e; rw [if_pos ⟨rfl, rfl⟩, qa_s, hmt]; rfl
    · rw [if_neg (fun q => e ((hj5 x k hx hk).mp q.2)), qa_n e]; exact hq4 x hx), (fun x hx i l hl => by
    show x_R σ 210 (ad 2 l) = (qa Q k m x)[i + 1]?.map (ad 2)
    by_cases e : x = k
    · subst e
      rw [qa_s, hmt] at hl ⊢
      cases i with
      | zero => cases hl; exact hqz m hm (by rw [h2]; decide)
      | succ i => cases hl
    · rw [qa_n e] at hl ⊢; exact hqn x hx i l hl), (fun i hi hq => by
    show x_R σ 210 (ad 2 i) = none
    by_cases e : i = m
    · rw [e]; exact hqz m hm (by rw [h2]; decide)
    · rw [x_up_n _ _ _ _ (fun q => e q.2)] at hq; exact hqz i hi hq), ho0, ho1, ho3, ho4, ho5, ho6, ho7, ho8, ho9, ho10, ho11, ho12, hm0, hm1, hm2, hm3, hm4, (fun i hi => (hm5 i hi).trans (ite_iff (h35 i) _ _)), (fun i hi => (hm6 i hi).trans (ite_iff (h35 i) _ _)), (fun i hi hq => hm7 i hi ((h35 i).mpr hq)), hm8, hm9, hs0, hs2, hs3, hs1, hsd, hz804, hz805, hz806, hz808, hz809, hz810, hz300, hz301, hz2, ha1, ha7, ha4, ha2, hab, haf, hal⟩
theorem RX.enq1 (h : RX b ad T Q σ) {m l : Nat} {L : List Nat} (hm : m < cM T) (h2 : T 35 m = 2) (hk : k < 2 * cW T) (hmt : Q k = L ++ [l]) (hQ : ∀ x, x < 2 * cW T → ∀ i, i ∈ Q x → i < cM T) (hmQ : ∀ x, x < 2 * cW T → m ∉ Q x) (hd : ∀ x, x < 2 * cW T → x ≠ k → ∀ i, i ∈ Q k → i ∉ Q x) (hnd : (Q k).Nodup) (hlz : ∀ i, i ∈ Q k → T 35 i = 0) : RX b ad (x_up T 35 m 0) (qa Q k m) (x_uI (x_uR (x_uR σ 210 (ad 2 l) (some (ad 2 m))) 504 (ad 5 k) (some (ad 2 m))) 502 (ad 5 k) (nI (Q k).length + 1)) := by
  have h35 : ∀ i, (T 35 i = 1) ↔ (x_up T 35 m 0 35 i = 1) := fun i => by
    by_cases e : i = m
    · subst e; rw [x_up_s, h2]; decide
    · rw [x_up_n _ _ _ _ (fun q => e q.2)]
  have hl : l ∈ Q k := by rw [hmt]; simp
  have hlm := hQ k hk l hl
  have hml : m ≠ l := fun q => hmQ k hk (q ▸ hl)
  have hlL : l ∉ L := by
    rw [hmt] at hnd
    intro q
    have := (List.nodup_append.mp hnd).2.2 l q l (by simp)
    exact this rfl
  obtain ⟨hfK, hfL, hfR, hwf, hk1, hk2, hk4, hk5, hk7, hk6, hkd, hj1, hj2, hj4, hj5, hj7, hj6, hjd, hc0, hc1, hc2, hc3, hc4, hc5, hw0, hw2, hw3, hw4, hq0, hq2, hq3, hq4, hqn, hqz, ho0, ho1, ho3, ho4, ho5, ho6, ho7, ho8, ho9, ho10, ho11, ho12, hm0, hm1, hm2, hm3, hm4, hm5, hm6, hm7, hm8, hm9, hs0, hs2, hs3, hs1, hsd, hz804, hz805, hz806, hz808, hz809, hz810, hz300, hz301, hz2, ha1, ha7, ha4, ha2, hab, haf, hal⟩ := h
  exact ⟨hfK, hfL, hfR, hwf, hk1, hk2, hk4, hk5, hk7, hk6, hkd, hj1, hj2, hj4, hj5, hj7, hj6, hjd, hc0, hc1, hc2, hc3, hc4, hc5, hw0, hw2, hw3, hw4, hq0, (fun x hx => by
    show (if 502 = 502 ∧ ad 5 x = ad 5 k then nI (Q k).length + 1 else x_I σ 502 (ad 5 x)) = nI (qa Q k m x).length
    by_cases e : x = k
    · subst e; rw [if_pos ⟨rfl, rfl⟩, qa_s, List.length_append, nI_1]; rfl
    · rw [if_neg (fun q => e ((hj5 x k hx hk).mp q.2)), qa_n e]; exact hq2 x hx), (fun x hx => by
    show x_R σ 503 (ad 5 x) = (qa Q k m x).head?.map (ad 2)
    by_cases e : x = k
    · subst e; rw [qa_s, hq3 x hx, hmt]; cases L <;> rfl
    · rw [qa_n e]; exact hq3 x hx), (fun x hx => by
    show (if 504 = 504 ∧ ad 5 x = ad 5 k then some (ad 2 m) else x_R σ 504 (ad 5 x)) = (qa Q k m x).getLast?.map (ad 2)
    by_cases e : x = k
    · subst e; rw [if_pos ⟨rfl, rfl⟩, qa_s]; simp
    · rw [if_neg (fun q => e ((hj5 x k hx hk).mp q.2)), qa_n e]; exact hq4 x hx), (fun x hx i j hj => by
    show (if 210 = 210 ∧ ad 2 j = ad 2 l then some (ad 2 m) else x_R σ 210 (ad 2 j)) = (qa Q k m x)[i + 1]?.map (ad 2)
    by_cases e : x = k
    · subst e
      rw [qa_s] at hj ⊢
      have hn := congrArg List.length hmt
      rw [List.length_append] at hn
      have hn' : (Q x).length = L.length + 1 := hn
      by_cases c1 : i < L.length
      · rw [List.getElem?_append_left (by omega)] at hj ⊢
        have jm : j ∈ L := by
          rw [hmt, List.getElem?_append_left c1] at hj
          exact List.mem_of_getElem? hj
        have hjl : j ≠ l := fun q => hlL (q ▸ jm)
        rw [if_neg (by rintro ⟨-, q⟩; exact hjl ((hj2 j l (hQ x hx j (List.mem_of_getElem? hj)) hlm).mp q))]
        exact hqn x hx i j hj
      · by_cases c2 : i = L.length
        · have : (Q x)[i]? = some l := by rw [hmt, c2]; simp
          rw [List.getElem?_append_left (by omega), this] at hj
          cases hj
          rw [if_pos ⟨rfl, rfl⟩, List.getElem?_append_right (by omega), show i + 1 - (Q x).length = 0 by omega]
          rfl
        · rw [List.getElem?_append_right (by omega)] at hj ⊢
          by_cases c3 : i = L.length + 1
          · rw [show i - (Q x).length = 0 by omega] at hj
            cases hj
            rw [show i + 1 - (Q x).length = 1 by omega, if_neg (fun q => hml ((hj2 m l hm hlm).mp q.2))]
            exact hqz m hm (by rw [h2]; decide)
          · obtain ⟨y, hy⟩ : ∃ y, i - (Q x).length = y + 1 := ⟨i - (Q x).length - 1, by omega⟩
            rw [hy] at hj
            cases hj
    · rw [qa_n e] at hj ⊢
      have hjl : j ≠ l := fun q => hd x hx e l hl (q ▸ List.mem_of_getElem? hj)
      rw [if_neg (by rintro ⟨-, q⟩; exact hjl ((hj2 j l (hQ x hx j (List.mem_of_getElem? hj)) hlm).mp q))]
      exact hqn x hx i j hj), (fun i hi hq => by
    show (if 210 = 210 ∧ ad 2 i = ad 2 l then some (ad 2 m) else x_R σ 210 (ad 2 i)) = none
    by_cases e2 : i = l
    · exfalso
      have e3 : i ≠ m := fun q => hml (q.symm.trans e2)
      rw [x_up_n _ _ _ _ (fun q => e3 q.2)] at hq
      exact hq (hlz i (by rw [e2]; exact hl))
    · rw [if_neg (fun q => e2 ((hj2 i l hi hlm).mp q.2))]
      by_cases e : i = m
      · rw [e]; exact hqz m hm (by rw [h2]; decide)
      · rw [x_up_n _ _ _ _ (fun q => e q.2)] at hq; exact hqz i hi hq), ho0, ho1, ho3, ho4, ho5, ho6, ho7, ho8, ho9, ho10, ho11, ho12, hm0, hm1, hm2, hm3, hm4, (fun i hi => (hm5 i hi).trans (ite_iff (h35 i) _ _)), (fun i hi => (hm6 i hi).trans (ite_iff (h35 i) _ _)), (fun i hi hq => hm7 i hi ((h35 i).mpr hq)), hm8, hm9, hs0, hs2, hs3, hs1, hsd, hz804, hz805, hz806, hz808, hz809, hz810, hz300, hz301, hz2, ha1, ha7, ha4, ha2, hab, haf, hal⟩
theorem RX.deq0 (h : RX b ad T Q σ) {m : Nat} (hm : m < cM T) (h2 : T 35 m = 0) (hk : k < 2 * cW T) (hmt : Q k = [m]) (hQ : ∀ x, x < 2 * cW T → ∀ i, i ∈ Q x → i < cM T) (hd : ∀ x, x < 2 * cW T → x ≠ k → m ∉ Q x) : RX b ad (x_up T 35 m 2) (qd Q k []) (x_uI (x_uR (x_uR (x_uR σ 503 (ad 5 k) none) 504 (ad 5 k) none) 210 (ad 2 m) none) 502 (ad 5 k) (nI (Q k).length - 1)) := by
  have h35 : ∀ i, (T 35 i = 1) ↔ (x_up T 35 m 2 35 i = 1) := fun i => by
    by_cases e : i = m
    · subst e; rw [x_up_s, h2]; decide
    · rw [x_up_n _ _ _ _ (fun q => e q.2)]
  obtain ⟨hfK, hfL, hfR, hwf, hk1, hk2, hk4, hk5, hk7, hk6, hkd, hj1, hj2, hj4, hj5, hj7, hj6, hjd, hc0, hc1, hc2, hc3, hc4, hc5, hw0, hw2, hw3, hw4, hq0, hq2, hq3, hq4, hqn, hqz, ho0, ho1, ho3, ho4, ho5, ho6, ho7, ho8, ho9, ho10, ho11, ho12, hm0, hm1, hm2, hm3, hm4, hm5, hm6, hm7, hm8, hm9, hs0, hs2, hs3, hs1, hsd, hz804, hz805, hz806, hz808, hz809, hz810, hz300, hz301, hz2, ha1, ha7, ha4, ha2, hab, haf, hal⟩ := h
  exact ⟨hfK, hfL, hfR, hwf, hk1, hk2, hk4, hk5, hk7, hk6, hkd, hj1, hj2, hj4, hj5, hj7, hj6, hjd, hc0, hc1, hc2, hc3, hc4, hc5, hw0, hw2, hw3, hw4, hq0, (fun x hx => by
    show (if 502 = 502 ∧ ad 5 x = ad 5 k then nI (Q k).length - 1 else x_I σ 502 (ad 5 x)) = nI (qd Q k [] x).length
    by_cases e : x = k
    · subst e; rw [if_pos ⟨rfl, rfl⟩, qd_s, hmt]; exact nI_pred 0
    · rw [if_neg (fun q => e ((hj5 x k hx hk).mp q.2)), qd_n e]; exact hq2 x hx), (fun x hx => by
    show (if 503 = 503 ∧ ad 5 x = ad 5 k then none else x_R σ 503 (ad 5 x)) = (qd Q k [] x).head?.map (ad 2)
    by_cases e : x = k
    · subst e; rw [if_pos ⟨rfl, rfl⟩, qd_s]; rfl
    · rw [if_neg (fun q => e ((hj5 x k hx hk).mp q.2)), qd_n e]; exact hq3 x hx), (fun x hx => by
    show (if 504 = 504 ∧ ad 5 x = ad 5 k then none else x_R σ 504 (ad 5 x)) = (qd Q k [] x).getLast?.map (ad 2)
    by_cases e : x = k
    · subst e; rw [if_pos ⟨rfl, rfl⟩, qd_s]; rfl
    · rw [if_neg (fun q => e ((hj5 x k hx hk).mp q.2)), qd_n e]; exact hq4 x hx), (fun x hx i l hl => by
    show (if 210 = 210 ∧ ad 2 l = ad 2 m then none else x_R σ 210 (ad 2 l)) = (qd Q k [] x)[i + 1]?.map (ad 2)
    by_cases e : x = k
    · subst e; rw [qd_s] at hl; cases hl
    · rw [qd_n e] at hl ⊢
      have hjl : l ≠ m := fun q => hd x hx e (q ▸ List.mem_of_getElem? hl)
      rw [if_neg (by rintro ⟨-, q⟩; exact hjl ((hj2 l m (hQ x hx l (List.mem_of_getElem? hl)) hm).mp q))]
      exact hqn x hx i l hl), (fun i hi hq => by
    show (if 210 = 210 ∧ ad 2 i = ad 2 m then none else x_R σ 210 (ad 2 i)) = none
    by_cases e : i = m
    · subst e; rw [if_pos ⟨rfl, rfl⟩]
    · rw [x_up_n _ _ _ _ (fun q => e q.2)] at hq
      rw [if_neg (by rintro ⟨-, q⟩; exact e ((hj2 i m hi hm).mp q))]; exact hqz i hi hq), ho0, ho1, ho3, ho4, ho5, ho6, ho7, ho8, ho9, ho10, ho11, ho12, hm0, hm1, hm2, hm3, hm4, (fun i hi => (hm5 i hi).trans (ite_iff (h35 i) _ _)), (fun i hi => (hm6 i hi).trans (ite_iff (h35 i) _ _)), (fun i hi hq => hm7 i hi ((h35 i).mpr hq)), hm8, hm9, hs0, hs2, hs3, hs1, hsd, hz804, hz805, hz806, hz808, hz809, hz810, hz300, hz301, hz2, ha1, ha7, ha4, ha2, hab, haf, hal⟩
theorem RX.deq1 (h : RX b ad T Q σ) {m l : Nat} {L : List Nat} (hm : m < cM T) (h2 : T 35 m = 0) (hk : k < 2 * cW T) (hmt : Q k = m :: l :: L) (hQ : ∀ x, x < 2 * cW T → ∀ i, i ∈ Q x → i < cM T) (hd : ∀ x, x < 2 * cW T → x ≠ k → m ∉ Q x) (hnd : (Q k).Nodup) : RX b ad (x_up T 35 m 2) (qd Q k (l :: L)) (x_uI (x_uR (x_uR σ 503 (ad 5 k) (some (ad 2 l))) 210 (ad 2 m) none) 502 (ad 5 k) (nI (Q k).length - 1)) := by
  have h35 : ∀ i, (T 35 i = 1) ↔ (x_up T 35 m 2 35 i = 1) := fun i => by
    by_cases e : i = m
    · subst e; rw [x_up_s, h2]; decide
    · rw [x_up_n _ _ _ _ (fun q => e q.2)]
  have hmL : m ∉ l :: L := by rw [hmt] at hnd; exact (List.nodup_cons.mp hnd).1
  obtain ⟨hfK, hfL, hfR, hwf, hk1, hk2, hk4, hk5, hk7, hk6, hkd, hj1, hj2, hj4, hj5, hj7, hj6, hjd, hc0, hc1, hc2, hc3, hc4, hc5, hw0, hw2, hw3, hw4, hq0, hq2, hq3, hq4, hqn, hqz, ho0, ho1, ho3, ho4, ho5, ho6, ho7, ho8, ho9, ho10, ho11, ho12, hm0, hm1, hm2, hm3, hm4, hm5, hm6, hm7, hm8, hm9, hs0, hs2, hs3, hs1, hsd, hz804, hz805, hz806, hz808, hz809, hz810, hz300, hz301, hz2, ha1, ha7, ha4, ha2, hab, haf, hal⟩ := h
  exact ⟨hfK, hfL, hfR, hwf, hk1, hk2, hk4, hk5, hk7, hk6, hkd, hj1, hj2, hj4, hj5, hj7, hj6, hjd, hc0, hc1, hc2, hc3, hc4, hc5, hw0, hw2, hw3, hw4, hq0, (fun x hx => by
    show (if 502 = 502 ∧ ad 5 x = ad 5 k then nI (Q k).length - 1 else x_I σ 502 (ad 5 x)) = nI (qd Q k (l :: L) x).length
    by_cases e : x = k
    · subst e; rw [if_pos ⟨rfl, rfl⟩, qd_s, hmt, List.length_cons, nI_pred]
    · rw [if_neg (fun q => e ((hj5 x k hx hk).mp q.2)), qd_n e]; exact hq2 x hx), (fun x hx => by
    show (if 503 = 503 ∧ ad 5 x = ad 5 k then some (ad 2 l) else x_R σ 503 (ad 5 x)) = (qd Q k (l :: L) x).head?.map (ad 2)
    by_cases e : x = k
    · subst e; rw [if_pos ⟨rfl, rfl⟩, qd_s]; rfl
    · rw [if_neg (fun q => e ((hj5 x k hx hk).mp q.2)), qd_n e]; exact hq3 x hx), (fun x hx => by
    show x_R σ 504 (ad 5 x) = (qd Q k (l :: L) x).getLast?.map (ad 2)
    by_cases e : x = k
    · subst e; rw [hq4 x hx, qd_s, hmt, List.getLast?_cons_cons]
    · rw [qd_n e]; exact hq4 x hx), (fun x hx i j hj => by
    show (if 210 = 210 ∧ ad 2 j = ad 2 m then none else x_R σ 210 (ad 2 j)) = (qd Q k (l :: L) x)[i + 1]?.map (ad 2)
    by_cases e : x = k
    · subst e
      rw [qd_s] at hj ⊢
      have hj' : (Q x)[i + 1]? = some j := by rw [hmt]; exact hj
      have hjm : j ≠ m := fun q => hmL (q ▸ List.mem_of_getElem? hj)
      rw [if_neg (by rintro ⟨-, q⟩; exact hjm ((hj2 j m (hQ x hx j (List.mem_of_getElem? hj')) hm).mp q)), hqn x hx (i + 1) j hj', hmt]
      rfl
    · rw [qd_n e] at hj ⊢
      have hjl : j ≠ m := fun q => hd x hx e (q ▸ List.mem_of_getElem? hj)
      rw [if_neg (by rintro ⟨-, q⟩; exact hjl ((hj2 j m (hQ x hx j (List.mem_of_getElem? hj)) hm).mp q))]
      exact hqn x hx i j hj), (fun i hi hq => by
    show (if 210 = 210 ∧ ad 2 i = ad 2 m then none else x_R σ 210 (ad 2 i)) = none
    by_cases e : i = m
    · subst e; rw [if_pos ⟨rfl, rfl⟩]
    · rw [x_up_n _ _ _ _ (fun q => e q.2)] at hq
      rw [if_neg (by rintro ⟨-, q⟩; exact e ((hj2 i m hi hm).mp q))]; exact hqz i hi hq), ho0, ho1, ho3, ho4, ho5, ho6, ho7, ho8, ho9, ho10, ho11, ho12, hm0, hm1, hm2, hm3, hm4, (fun i hi => (hm5 i hi).trans (ite_iff (h35 i) _ _)), (fun i hi => (hm6 i hi).trans (ite_iff (h35 i) _ _)), (fun i hi hq => hm7 i hi ((h35 i).mpr hq)), hm8, hm9, hs0, hs2, hs3, hs1, hsd, hz804, hz805, hz806, hz808, hz809, hz810, hz300, hz301, hz2, ha1, ha7, ha4, ha2, hab, haf, hal⟩
/-! the class's steps -/
theorem e_leave (h : RX b ad T Q σ) (F : Nat) {m : Nat} (hm : m < cM T) (h1 : T 35 m = 1) : ∃ σ', x_rn (mX2_leaveWire F (some (ad 2 m))) σ = some ((), σ') ∧ RX b ad (x_up T 35 m 2) Q σ' ∧ SM σ σ' := by
  have km := h.k2 _ hm
  have m6 := h.m6 _ hm
  rw [if_pos h1] at m6
  refine ⟨_, ?_, h.leave hm h1, (((SM.refl σ).uR _ _ _ (by decide)).uR _ _ _ (by decide)).uI _ _ _ (by decide)⟩
  unfold mX2_leaveWire
  refine q_rR km m6 ?_
  refine q_wR km ?_
  refine q_wR km ?_
  refine q_wI km ?_
  exact q_e
theorem e_enter (h : RX b ad T Q σ) (F : Nat) {m : Nat} (hm : m < cM T) (h1 : T 35 m = 2) (v p : Int32) : ∃ σ', x_rn (mX2_enterWire F (some (ad 2 m)) (some (ad 1 (ix p))) v) σ = some ((), σ') ∧ RX b ad (x_up (x_up (x_up T 35 m 1) 39 m v) 36 m p) Q σ' ∧ SM σ σ' := by
  have km := h.k2 _ hm
  refine ⟨_, ?_, h.enter hm h1 v p, (((SM.refl σ).uR _ _ _ (by decide)).uR _ _ _ (by decide)).uI _ _ _ (by decide)⟩
  unfold mX2_enterWire
  refine q_wR km ?_
  refine q_wR km ?_
  refine q_wI km ?_
  exact q_e
theorem e_add (h : RX b ad T Q σ) (F : Nat) {m : Nat} (hm : m < cM T) (h2 : T 35 m = 2) (hk : k < 2 * cW T) (hQ : ∀ x, x < 2 * cW T → ∀ i, i ∈ Q x → i < cM T) (hmQ : ∀ x, x < 2 * cW T → m ∉ Q x) (hd : ∀ x, x < 2 * cW T → x ≠ k → ∀ i, i ∈ Q k → i ∉ Q x) (hnd : (Q k).Nodup) (hlz : ∀ i, i ∈ Q k → T 35 i = 0) : ∃ σ', x_rn (mX5_add F (some (ad 5 k)) (some (ad 2 m))) σ = some ((), σ') ∧ RX b ad (x_up T 35 m 0) (qa Q k m) σ' ∧ SM σ σ' := by
  have kq := h.k5 _ hk
  have q4 := h.q4 _ hk
  rcases List.eq_nil_or_concat (Q k) with e | ⟨L, l, e⟩
  · refine ⟨_, ?_, h.enq0 hm h2 hk e, (((SM.refl σ).uR _ _ _ (by decide)).uR _ _ _ (by decide)).uI _ _ _ (by decide)⟩
    rw [e] at q4
    unfold mX5_add
    refine q_rR kq q4 ?_
    refine q_t rfl ?_
    refine q_wR kq ?_
    unfold mX5_add_23
    refine q_wR kq ?_
    refine q_rI kq (h.q2 _ hk) ?_
    refine q_wI kq ?_
    exact q_e
  · rw [List.concat_eq_append] at e
    have hl : l < cM T := hQ k hk l (by rw [e]; simp)
    have q4' : x_R σ 504 (ad 5 k) = some (ad 2 l) := by rw [q4, e]; simp
    refine ⟨_, ?_, h.enq1 hm h2 hk e hQ hmQ hd hnd hlz, (((SM.refl σ).uR _ _ _ (by decide)).uR _ _ _ (by decide)).uI _ _ _ (by decide)⟩
    unfold mX5_add
    refine q_rR kq q4' ?_
    refine q_f n_some ?_
    refine q_rR kq q4' ?_
    refine q_wR (h.k2 _ hl) ?_
    unfold mX5_add_23
    refine q_wR kq ?_
    refine q_rI kq (h.q2 _ hk) ?_
    refine q_wI kq ?_
    exact q_e
theorem e_take0 (h : RX b ad T Q σ) (F : Nat) (hk : k < 2 * cW T) (e : Q k = []) : x_rn (mX5_take F (some (ad 5 k))) σ = some (none, σ) := by
  have kq := h.k5 _ hk
  have q3 := h.q3 _ hk
  rw [e] at q3
  unfold mX5_take
  refine q_rR kq q3 ?_
  refine q_t rfl ?_
  exact q_e
theorem e_take (h : RX b ad T Q σ) (F : Nat) {m : Nat} {L : List Nat} (hm : m < cM T) (h2 : T 35 m = 0) (hk : k < 2 * cW T) (hmt : Q k = m :: L) (hQ : ∀ x, x < 2 * cW T → ∀ i, i ∈ Q x → i < cM T) (hd : ∀ x, x < 2 * cW T → x ≠ k → m ∉ Q x) (hnd : (Q k).Nodup) : ∃ σ', x_rn (mX5_take F (some (ad 5 k))) σ = some (some (ad 2 m), σ') ∧ RX b ad (x_up T 35 m 2) (qd Q k L) σ' ∧ SM σ σ' := by
  have kq := h.k5 _ hk
  have km := h.k2 _ hm
  have q3 : x_R σ 503 (ad 5 k) = some (ad 2 m) := by rw [h.q3 _ hk, hmt]; rfl
  have qn := h.qn k hk 0 m (by rw [hmt]; rfl)
  cases L with
  | nil =>
    have qn' : x_R σ 210 (ad 2 m) = none := by rw [qn, hmt]; rfl
    refine ⟨_, ?_, h.deq0 hm h2 hk hmt hQ hd, ((((SM.refl σ).uR _ _ _ (by decide)).uR _ _ _ (by decide)).uR _ _ _ (by decide)).uI _ _ _ (by decide)⟩
    unfold mX5_take
    refine q_rR kq q3 ?_
    refine q_f n_some ?_
    refine q_rR km qn' ?_
    refine q_wR kq ?_
    refine q_rR kq (x_up_s _ _ _ _) ?_
    refine q_t rfl ?_
    refine q_wR kq ?_
    unfold mX5_take_31
    refine q_wR km ?_
    refine q_rI kq (h.q2 _ hk) ?_
    refine q_wI kq ?_
    exact q_e
  | cons l L =>
    have qn' : x_R σ 210 (ad 2 m) = some (ad 2 l) := by rw [qn, hmt]; rfl
    refine ⟨_, ?_, h.deq1 hm h2 hk hmt hQ hd hnd, (((SM.refl σ).uR _ _ _ (by decide)).uR _ _ _ (by decide)).uI _ _ _ (by decide)⟩
    unfold mX5_take
    refine q_rR kq q3 ?_
    refine q_f n_some ?_
    refine q_rR km qn' ?_
    refine q_wR kq ?_
    refine q_rR kq (x_up_s _ _ _ _) ?_
    refine q_f n_some ?_
    unfold mX5_take_31
    refine q_wR km ?_
    refine q_rI kq (h.q2 _ hk) ?_
    refine q_wI kq ?_
    exact q_e
end PQ
