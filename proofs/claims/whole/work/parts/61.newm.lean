section PW
variable {b : Nat} {ad : Ad} {T T2 : Tb} {Q : Qs} {σ : PH} {s k : Nat}
def tD (T : Tb) (n : Nat) (g : Nat → Int32) : Tb := fun k i => if k = 45 ∧ 13 * n ≤ i ∧ i < 13 * n + 13 then g (i - 13 * n) else T k i
theorem tD_lt {n i j : Nat} {g : Nat → Int32} (hi : i < n) (hj : j < 13) : tD T n g 45 (13 * i + j) = T 45 (13 * i + j) := if_neg (by omega)
theorem tD_at {n j : Nat} {g : Nat → Int32} (hj : j < 13) : tD T n g 45 (13 * n + j) = g j := by
  unfold tD
  rw [if_pos ⟨rfl, by omega, by omega⟩, Nat.add_sub_cancel_left]
def tM (T : Tb) (kd o f t : Int32) : Tb := x_up (x_up (x_up (x_up (x_up (x_up T 31 (cM T) kd) 32 (cM T) o) 33 (cM T) f) 34 (cM T) t) 40 (cM T) (-1)) 30 0 (nI (cM T + 1))
def tN (T : Tb) (kd o f t dy te : Int32) (g : Nat → Int32) : Tb := x_up (tD (x_up (tM T kd o f t) 44 (cM T) dy) (cM T) g) 43 (cM T) te
def tL (T : Tb) (kd o f t dy te : Int32) (g : Nat → Int32) : Tb := x_up (x_up (tN T kd o f t dy te g) 35 (cM T) 2) 36 (cM T) f
/-- the objects of a new message stand -/
def NM (b : Nat) (ad : Ad) (T : Tb) (σ : PH) (a2 a6 a10 : Nat) (kd o f t dy te : Int32) (g : Nat → Int32) : Prop :=
  (∀ i, i < cM T → ad 2 i ≠ a2) ∧ (∀ i, i < cM T → T 31 i = 0 → ad 6 i ≠ a6 ∧ ad 10 i ≠ a10) ∧ x_K σ a2 = 3 ∧ x_I σ 200 a2 = kd ∧ x_R σ 201 a2 = some (ad 4 (ix o)) ∧ x_R σ 202 a2 = some (ad 1 (ix f)) ∧ x_R σ 203 a2 = some (ad 1 (ix t)) ∧ x_R σ 204 a2 = (if kd = 0 then some a6 else none) ∧ x_R σ 205 a2 = some (ad 1 (ix f)) ∧ x_R σ 206 a2 = none ∧ x_I σ 208 a2 = -1 ∧ x_I σ 209 a2 = 0 ∧ x_R σ 210 a2 = none ∧ (kd = 0 → x_K σ a6 = 7 ∧ x_I σ 600 a6 = te ∧ x_I σ 602 a6 = dy ∧ x_I σ 603 a6 = 0 ∧ x_R σ 601 a6 = some a10 ∧ x_K σ a10 = 11 ∧ x_L σ a10 = 13 ∧ b + 53 ≤ a10 ∧ ∀ j, j < 13 → x_A σ a10 j = g j)
theorem map_cg {α : Type} {u u' : Nat → α} {o : Option Nat} (h : ∀ m, o = some m → u' m = u m) : o.map u = o.map u' := by
  cases o with
  | none => rfl
  | some m => exact congrArg some (h m rfl).symm
theorem hd_mem {L : List Nat} {m : Nat} (h : L.head? = some m) : m ∈ L := by
  cases L with
  | nil => cases h
  | cons a L => cases h; simp
theorem last_mem {L : List Nat} {m : Nat} (h : L.getLast? = some m) : m ∈ L := by
  rcases List.eq_nil_or_concat L with e | ⟨L', a, e⟩
  · subst e; cases h
  · rw [List.concat_eq_append] at e
    subst e
    simp at h
    subst h
    simp
theorem RX.newM (h : RX b ad T Q σ) (hn : cM T < 1000) (hQ : ∀ x, x < 2 * cW T → ∀ i, i ∈ Q x → i < cM T) (hf : T 41 (cM T) = 0 ∧ T 42 (cM T) = 0) {a2 a6 a10 : Nat} {kd o f t dy te : Int32} {g : Nat → Int32} (hN : NM b ad T σ a2 a6 a10 kd o f t dy te g) : RX b (x_up (x_up (x_up ad 2 (cM T) a2) 6 (cM T) a6) 10 (cM T) a10) (tL T kd o f t dy te g) Q (x_uI (x_uQ σ (b + 11) (cM T) (some a2)) 805 b (nI (cM T + 1))) := by
  obtain ⟨n1, n2, p0, p1, p2, p3, p4, p5, p6, p7, p8, p9, p10, p11⟩ := hN
  have eM : cM (tL T kd o f t dy te g) = cM T + 1 := ix_nI (by omega)
  have U2 : ∀ i, i < cM T → x_up (x_up (x_up ad 2 (cM T) a2) 6 (cM T) a6) 10 (cM T) a10 2 i = ad 2 i := fun i hi => (up_lt hi : x_up ad 2 (cM T) a2 2 i = ad 2 i)
  have V2 : x_up (x_up (x_up ad 2 (cM T) a2) 6 (cM T) a6) 10 (cM T) a10 2 (cM T) = a2 := x_up_s ad 2 (cM T) a2
  have U6 : ∀ i, i < cM T → x_up (x_up (x_up ad 2 (cM T) a2) 6 (cM T) a6) 10 (cM T) a10 6 i = ad 6 i := fun i hi => (up_lt hi : x_up ad 6 (cM T) a6 6 i = ad 6 i)
  have V6 : x_up (x_up (x_up ad 2 (cM T) a2) 6 (cM T) a6) 10 (cM T) a10 6 (cM T) = a6 := x_up_s ad 6 (cM T) a6
  have U10 : ∀ i, i < cM T → x_up (x_up (x_up ad 2 (cM T) a2) 6 (cM T) a6) 10 (cM T) a10 10 i = ad 10 i := fun i hi => (up_lt hi : x_up ad 10 (cM T) a10 10 i = ad 10 i)
  have V10 : x_up (x_up (x_up ad 2 (cM T) a2) 6 (cM T) a6) 10 (cM T) a10 10 (cM T) = a10 := x_up_s ad 10 (cM T) a10
  have t31 : ∀ i, i < cM T → tL T kd o f t dy te g 31 i = T 31 i := fun i hi => (up_lt hi : x_up T 31 (cM T) kd 31 i = T 31 i)
  have v31 : tL T kd o f t dy te g 31 (cM T) = kd := x_up_s T 31 (cM T) kd
  have t32 : ∀ i, i < cM T → tL T kd o f t dy te g 32 i = T 32 i := fun i hi => (up_lt hi : x_up T 32 (cM T) o 32 i = T 32 i)
  have v32 : tL T kd o f t dy te g 32 (cM T) = o := x_up_s T 32 (cM T) o
  have t33 : ∀ i, i < cM T → tL T kd o f t dy te g 33 i = T 33 i := fun i hi => (up_lt hi : x_up T 33 (cM T) f 33 i = T 33 i)
  have v33 : tL T kd o f t dy te g 33 (cM T) = f := x_up_s T 33 (cM T) f
  have t34 : ∀ i, i < cM T → tL T kd o f t dy te g 34 i = T 34 i := fun i hi => (up_lt hi : x_up T 34 (cM T) t 34 i = T 34 i)
  have v34 : tL T kd o f t dy te g 34 (cM T) = t := x_up_s T 34 (cM T) t
  have t35 : ∀ i, i < cM T → tL T kd o f t dy te g 35 i = T 35 i := fun i hi => (up_lt hi : x_up T 35 (cM T) 2 35 i = T 35 i)
  have v35 : tL T kd o f t dy te g 35 (cM T) = 2 := x_up_s T 35 (cM T) 2
  have t36 : ∀ i, i < cM T → tL T kd o f t dy te g 36 i = T 36 i := fun i hi => (up_lt hi : x_up T 36 (cM T) f 36 i = T 36 i)
  have v36 : tL T kd o f t dy te g 36 (cM T) = f := x_up_s T 36 (cM T) f
  have t40 : ∀ i, i < cM T → tL T kd o f t dy te g 40 i = T 40 i := fun i hi => (up_lt hi : x_up T 40 (cM T) (-1) 40 i = T 40 i)
  have v40 : tL T kd o f t dy te g 40 (cM T) = -1 := x_up_s T 40 (cM T) (-1)
  have t43 : ∀ i, i < cM T → tL T kd o f t dy te g 43 i = T 43 i := fun i hi => (up_lt hi : x_up T 43 (cM T) te 43 i = T 43 i)
  have v43 : tL T kd o f t dy te g 43 (cM T) = te := x_up_s T 43 (cM T) te
  have t44 : ∀ i, i < cM T → tL T kd o f t dy te g 44 i = T 44 i := fun i hi => (up_lt hi : x_up T 44 (cM T) dy 44 i = T 44 i)
  have v44 : tL T kd o f t dy te g 44 (cM T) = dy := x_up_s T 44 (cM T) dy
  have t45 : ∀ i j, i < cM T → j < 13 → tL T kd o f t dy te g 45 (13 * i + j) = T 45 (13 * i + j) := fun i j hi hj => (tD_lt (T := T) (g := g) hi hj)
  have v45 : ∀ j, j < 13 → tL T kd o f t dy te g 45 (13 * cM T + j) = g j := fun j hj => (tD_at (T := T) (n := cM T) (g := g) hj)
  have lt1 : ∀ i, i < cM (tL T kd o f t dy te g) → i = cM T ∨ i < cM T := fun i hi => by rw [eM] at hi; omega
  generalize hA : x_up (x_up (x_up ad 2 (cM T) a2) 6 (cM T) a6) 10 (cM T) a10 = ad' at U2 V2 U6 V6 U10 V10 ⊢
  have A1 : ad' 1 = ad 1 := by rw [← hA]; rfl
  have A4 : ad' 4 = ad 4 := by rw [← hA]; rfl
  have A5 : ad' 5 = ad 5 := by rw [← hA]; rfl
  have A7 : ad' 7 = ad 7 := by rw [← hA]; rfl
  obtain ⟨hfK, hfL, hfR, hwf, hk1, hk2, hk4, hk5, hk7, hk6, hkd, hj1, hj2, hj4, hj5, hj7, hj6, hjd, hc0, hc1, hc2, hc3, hc4, hc5, hw0, hw2, hw3, hw4, hq0, hq2, hq3, hq4, hqn, hqz, ho0, ho1, ho3, ho4, ho5, ho6, ho7, ho8, ho9, ho10, ho11, ho12, hm0, hm1, hm2, hm3, hm4, hm5, hm6, hm7, hm8, hm9, hs0, hs2, hs3, hs1, hsd, hz804, hz805, hz806, hz808, hz809, hz810, hz300, hz301, hz2, ha1, ha7, ha4, ha2, hab, haf, hal⟩ := h
  have F1 : ∀ i, i < cM (tL T kd o f t dy te g) → tL T kd o f t dy te g 31 i = 0 → (i = cM T ∧ kd = 0) ∨ (i < cM T ∧ T 31 i = 0) := by
    intro i hi hq
    rcases lt1 i hi with e | e
    · left; subst e; rw [v31] at hq; exact ⟨rfl, hq⟩
    · right; rw [t31 i e] at hq; exact ⟨e, hq⟩
  refine ⟨hfK, hfL, hfR, hwf, (by rw [A1]; exact hk1), (new_at (g := x_K σ) (t := fun _ => 3) (t' := fun _ => 3) eM hk2 U2 (fun _ _ => rfl) (by rw [V2]; exact p0)), (by rw [A4]; exact hk4), (by rw [A5]; exact hk5), (by rw [A7]; exact hk7), ?_, ?_, (by rw [A1]; exact hj1), (new_j eM hj2 U2 V2 n1), (by rw [A4]; exact hj4), (by rw [A5]; exact hj5), (by rw [A7]; exact hj7), ?_, ?_, (by rw [A1]; exact hc0), (by rw [A1]; exact hc1), (by rw [A1]; exact hc2), (by rw [A1]; exact hc3), (by rw [A1]; exact hc4), (by rw [A1]; exact hc5), (by rw [A5, A7]; exact hw0), (by rw [A7]; exact hw2), (by rw [A7]; exact hw3), (by rw [A7]; exact hw4), (by rw [A1, A5]; exact hq0), (by rw [A5]; exact hq2), ?_, ?_, ?_, ?_, (by rw [A4]; exact ho0), (by rw [A1, A4]; exact ho1), (by rw [A4]; exact ho3), (by rw [A4]; exact ho4), (by rw [A4]; exact ho5), (by rw [A4]; exact ho6), (by rw [A4]; exact ho7), (by rw [A4]; exact ho8), (by rw [A4]; exact ho9), (by rw [A4]; exact ho10), (by rw [A4]; exact ho11), (by rw [A4]; exact ho12), (new_at (g := x_I σ 200) (t' := fun i => tL T kd o f t dy te g 31 i) eM hm0 U2 t31 (by rw [V2]; exact p1.trans v31.symm)), ?_, ?_, ?_, ?_, ?_, ?_, ?_, (new_at (g := x_I σ 208) (t' := fun i => tL T kd o f t dy te g 40 i) eM hm8 U2 t40 (by rw [V2]; exact p8.trans v40.symm)), (new_at (g := x_I σ 209) (t' := fun i => tL T kd o f t dy te g 41 i) eM hm9 U2 (fun _ _ => rfl) (by rw [V2]; exact p9.trans hf.1.symm)), ?_, ?_, ?_, ?_, ?_, hz804, (by rw [I_uI]; simp; rfl), hz806, hz808, hz809, hz810, hz300, hz301, hz2, ?_, ?_, ?_, ?_, hab, haf, hal⟩
  · intro i hi hq
    show x_K σ (ad' 6 i) = 7
    rcases F1 i hi hq with ⟨e, e2⟩ | ⟨e, e2⟩
    · subst e; rw [V6]; exact (p11 e2).1
    · rw [U6 i e]; exact hk6 i e e2
  · intro i hi hq
    show x_K σ (ad' 10 i) = 11 ∧ x_L σ (ad' 10 i) = 13 ∧ b + 53 ≤ ad' 10 i
    rcases F1 i hi hq with ⟨e, e2⟩ | ⟨e, e2⟩
    · subst e; rw [V10]; obtain ⟨-, -, -, -, -, r1, r2, r3, -⟩ := p11 e2; exact ⟨r1, r2, r3⟩
    · rw [U10 i e]; exact hkd i e e2
  · intro i j hi hj hqi hqj
    rcases F1 i hi hqi with ⟨e, e2⟩ | ⟨e, e2⟩
    · rcases F1 j hj hqj with ⟨e3, e4⟩ | ⟨e3, e4⟩
      · rw [e, e3]; simp
      · rw [e, V6, U6 j e3]
        exact ⟨fun q => absurd q.symm (n2 j e3 e4).1, fun q => by omega⟩
    · rcases F1 j hj hqj with ⟨e3, e4⟩ | ⟨e3, e4⟩
      · rw [e3, V6, U6 i e]
        exact ⟨fun q => absurd q (n2 i e e2).1, fun q => by omega⟩
      · rw [U6 i e, U6 j e3]; exact hj6 i j e e3 e2 e4
  · intro i j hi hj hqi hqj
    rcases F1 i hi hqi with ⟨e, e2⟩ | ⟨e, e2⟩
    · rcases F1 j hj hqj with ⟨e3, e4⟩ | ⟨e3, e4⟩
      · rw [e, e3]; simp
      · rw [e, V10, U10 j e3]
        exact ⟨fun q => absurd q.symm (n2 j e3 e4).2, fun q => by omega⟩
    · rcases F1 j hj hqj with ⟨e3, e4⟩ | ⟨e3, e4⟩
      · rw [e3, V10, U10 i e]
        exact ⟨fun q => absurd q (n2 i e e2).2, fun q => by omega⟩
      · rw [U10 i e, U10 j e3]; exact hjd i j e e3 e2 e4
  · intro x hx
    rw [A5]
    exact (hq3 x hx).trans (map_cg (fun m hm => U2 m (hQ x hx m (hd_mem hm))))
  · intro x hx
    rw [A5]
    exact (hq4 x hx).trans (map_cg (fun m hm => U2 m (hQ x hx m (last_mem hm))))
  · intro x hx i m hm
    show x_R σ 210 (ad' 2 m) = _
    rw [U2 m (hQ x hx m (List.mem_of_getElem? hm))]
    exact (hqn x hx i m hm).trans (map_cg (fun m hm => U2 m (hQ x hx m (List.mem_of_getElem? hm))))
  · intro i hi hq
    show x_R σ 210 (ad' 2 i) = none
    rcases lt1 i hi with e | e
    · rw [e, V2]; exact p10
    · rw [t35 i e] at hq; rw [U2 i e]; exact hqz i e hq
  · intro i hi
    show x_R σ 201 (ad' 2 i) = _
    rw [A4]
    rcases lt1 i hi with e | e
    · rw [e, V2, v32]; exact p2
    · rw [U2 i e, t32 i e]; exact hm1 i e
  · intro i hi
    show x_R σ 202 (ad' 2 i) = _
    rw [A1]
    rcases lt1 i hi with e | e
    · rw [e, V2, v33]; exact p3
    · rw [U2 i e, t33 i e]; exact hm2 i e
  · intro i hi
    show x_R σ 203 (ad' 2 i) = _
    rw [A1]
    rcases lt1 i hi with e | e
    · rw [e, V2, v34]; exact p4
    · rw [U2 i e, t34 i e]; exact hm3 i e
  · intro i hi
    show x_R σ 204 (ad' 2 i) = _
    rcases lt1 i hi with e | e
    · rw [e, V2, v31, V6]; exact p5
    · rw [U2 i e, t31 i e, U6 i e]; exact hm4 i e
  · intro i hi
    show x_R σ 205 (ad' 2 i) = _
    rw [A1]
    rcases lt1 i hi with e | e
    · rw [e, V2, v35, v36, if_neg (by decide)]; exact p6
    · rw [U2 i e, t35 i e, t36 i e]; exact hm5 i e
  · intro i hi
    show x_R σ 206 (ad' 2 i) = _
    rw [A1]
    rcases lt1 i hi with e | e
    · rw [e, V2, v35, if_neg (by decide)]; exact p7
    · rw [U2 i e, t35 i e, t36 i e]; exact hm6 i e
  · intro i hi hq
    show x_I σ 207 (ad' 2 i) = T 39 i
    rcases lt1 i hi with e | e
    · rw [e, v35] at hq; exact absurd hq (by decide)
    · rw [t35 i e] at hq; rw [U2 i e]; exact hm7 i e hq
  · intro i hi hq
    show x_I σ 600 (ad' 6 i) = _
    rcases F1 i hi hq with ⟨e, e2⟩ | ⟨e, e2⟩
    · rw [e, V6, v43]; exact (p11 e2).2.1
    · rw [U6 i e, t43 i e]; exact hs0 i e e2
  · intro i hi hq
    show x_I σ 602 (ad' 6 i) = _
    rcases F1 i hi hq with ⟨e, e2⟩ | ⟨e, e2⟩
    · rw [e, V6, v44]; exact (p11 e2).2.2.1
    · rw [U6 i e, t44 i e]; exact hs2 i e e2
  · intro i hi hq
    show x_I σ 603 (ad' 6 i) = T 42 i
    rcases F1 i hi hq with ⟨e, e2⟩ | ⟨e, e2⟩
    · rw [e, V6]; exact (p11 e2).2.2.2.1.trans hf.2.symm
    · rw [U6 i e]; exact hs3 i e e2
  · intro i hi hq
    show x_R σ 601 (ad' 6 i) = _
    rcases F1 i hi hq with ⟨e, e2⟩ | ⟨e, e2⟩
    · rw [e, V6, V10]; exact (p11 e2).2.2.2.2.1
    · rw [U6 i e, U10 i e]; exact hs1 i e e2
  · intro i hi hq j hj
    show x_A σ (ad' 10 i) j = _
    rcases F1 i hi hq with ⟨e, e2⟩ | ⟨e, e2⟩
    · subst e; rw [V10, v45 j hj]; exact (p11 e2).2.2.2.2.2.2.2.2 j hj
    · rw [U10 i e, t45 i j e hj]; exact hsd i e e2 j hj
  · intro i hi
    show (if b + 2 = b + 11 ∧ i = cM T then some a2 else x_Q σ (b + 2) i) = _
    rw [if_neg (by omega), A1]; exact ha1 i hi
  · intro i hi
    show (if b + 3 = b + 11 ∧ i = cM T then some a2 else x_Q σ (b + 3) i) = _
    rw [if_neg (by omega), A7]; exact ha7 i hi
  · intro i hi
    show (if b + 10 = b + 11 ∧ i = cM T then some a2 else x_Q σ (b + 10) i) = _
    rw [if_neg (by omega), A4]; exact ha4 i hi
  · intro i hi
    show (if b + 11 = b + 11 ∧ i = cM T then some a2 else x_Q σ (b + 11) i) = _
    rcases lt1 i hi with e | e
    · rw [if_pos ⟨rfl, e⟩, e, V2]
    · rw [if_neg (by omega), U2 i e]; exact ha2 i e
end PW
