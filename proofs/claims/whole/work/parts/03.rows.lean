/-! The heap that holds a pure store, and a row of the machine for each step of it -/
def x_V (σ : PH) (ci k a : Nat) : Value := if x_isI ci k = true then .int (x_I σ (100 * ci + k) a) else va_rf (x_R σ (100 * ci + k) a)
def x_O (σ : PH) (ci a : Nat) : List Value := (List.range (x_nf ci)).map (fun k => x_V σ ci k a)
def x_Rep (base : Nat) (D : va_G) (dA : Nat → ClassId) (σ : PH) (H : Heap) : Prop :=
  (∀ ci a, ci < 10 → x_K σ a = ci + 1 → va_at D vwCl (a, .inr (ci, x_O σ ci a)) H) ∧
  (∀ j a, j < 2 → x_K σ a = j + 11 → H[a]? = some (vp_cell (dA j) (x_L σ a, .inl (x_A σ a)))) ∧
  (∀ j a, 2 ≤ j → j < 6 → x_K σ a = j + 11 → H[a]? = some (vp_cell (dA j) (x_L σ a, .inr (.inr (.inr (.inr (x_Q σ a))))))) ∧
  (∀ a, x_K σ a ≠ 0 → base ≤ a ∧ a < x_N σ) ∧ H.size = x_N σ ∧ base ≤ x_N σ
def x_eC (j : Nat) : String := if j = 2 then "WireMoney$Counter" else if j = 3 then "WireMoney$Message" else if j = 4 then "WireMoney$Order" else "WireMoney$Wire"
def x_eI (j : Nat) : Nat := if j = 2 then 1 else if j = 3 then 2 else if j = 4 then 4 else 7
def x_tyA (j : Nat) : FieldType := if j = 0 then .int else if j = 1 then .boolean else .object (x_eC j)
def x_tys (dA : Nat → ClassId) : List (ClassId × FieldType) := (List.range 6).map (fun j => (dA j, x_tyA j))
/-- the tables, with the arrays' classes -/
def x_T (D : va_G) (dA : Nat → ClassId) (U : State) : Prop := va_K D vwCl (x_tys dA) U ∧ ∀ j, 2 ≤ j → j < 6 → va_AO (x_eC j) U
theorem x_T.moved {D : va_G} {dA : Nat → ClassId} {u U : State} (hvm : u.vm.Alike U.vm) (h : x_T D dA u) : x_T D dA U := ⟨va_K.moved hvm h.1, fun j h1 h2 => (h.2 j h1 h2).moved hvm⟩
theorem x_T.ty {D : va_G} {dA : Nat → ClassId} {U : State} (h : x_T D dA U) {j : Nat} (hj : j < 6) : ArrOfT U (dA j) (x_tyA j) ∧ va_RA U (dA j) (x_tyA j) := by
  refine h.1.2 j (dA j, x_tyA j) ?_
  simp [x_tys, hj]
def x_E (p : Program) (s : State) (m : MethodId) (args : Array Value) (c : Code) (cc : ByteArray) (nL : Nat) (own : String) (D : va_G) (dA : Nat → ClassId) : Prop :=
  p.tables.exec = Jvm.exec ∧ c.code = cc ∧ c.maxLocals = nL ∧ s.vm.findClass own = some m.cls ∧ (∀ w ∈ x_all, w.before args s = true) ∧ x_T D dA s
def x_S (base : Nat) (D : va_G) (dA : Nat → ClassId) (R : Room) (s : State) (σ0 σE σ : PH) (H : Heap) (locs : List Loc) : Prop :=
  x_Rep base D dA σ H ∧ va_S (fun q => base ≤ q) s.heap H locs ∧ base ≤ s.heap.size ∧ (x_N σ0 ≤ x_N σ ∧ x_U σ0 ≤ x_U σ) ∧ (x_N σ ≤ x_N σE ∧ x_U σ ≤ x_U σE) ∧ x_N σE - x_N σ0 ≤ R.cells ∧ x_U σE - x_U σ0 ≤ R.slots
theorem x_O_len (σ : PH) (ci a : Nat) : (x_O σ ci a).length = x_nf ci := by simp [x_O]
theorem x_O_get (σ : PH) (ci a : Nat) {k : Nat} (h : k < x_nf ci) : (x_O σ ci a)[k]? = some (x_V σ ci k a) := by simp [x_O, h]
theorem x_V_vp (σ : PH) (ci a : Nat) {k : Nat} (h : k < x_nf ci) : vp_V (x_O σ ci a) k = x_V σ ci k a := by
  simp [vp_V, x_O_get σ ci a h]
theorem x_cat (r : Option Nat) : (va_rf r).category = 1 := by cases r <;> rfl
theorem x_roomL (st : List Value) (h : st.length ≤ 4) : (st.map fun v => v.category).sum ≤ 8 := by
  have h1 : ∀ (l : List Value), (l.map fun v => v.category).sum ≤ 2 * l.length := by
    intro l
    induction l with
    | nil => simp
    | cons v l ih =>
      have := lv_cat v
      simp only [List.map_cons, List.sum_cons, List.length_cons]
      omega
  have := h1 st
  omega
theorem x_fid {ci k ci' k' : Nat} (h : k < x_nf ci) (h' : k' < x_nf ci') (e : 100 * ci + k = 100 * ci' + k') : ci = ci' ∧ k = k' := by
  have b : ∀ c, x_nf c ≤ 50 := by
    intro c
    unfold x_nf
    split <;> omega
  have := b ci
  have := b ci'
  omega
theorem x_V_uI_ne {σ : PH} {f a b : Nat} {v : Int32} (ci k : Nat) (h : b ≠ a) : x_V (x_uI σ f a v) ci k b = x_V σ ci k b := by
  simp [x_V, x_uI, x_I, x_R, x_up, h]
theorem x_O_uI_ne {σ : PH} {f a b : Nat} {v : Int32} (ci : Nat) (h : b ≠ a) : x_O (x_uI σ f a v) ci b = x_O σ ci b := by
  simp only [x_O]
  exact List.map_congr_left (fun k _ => x_V_uI_ne ci k h)
theorem x_V_uR_ne {σ : PH} {f a b : Nat} {v : Option Nat} (ci k : Nat) (h : b ≠ a) : x_V (x_uR σ f a v) ci k b = x_V σ ci k b := by
  simp [x_V, x_uR, x_I, x_R, x_up, h]
theorem x_O_uR_ne {σ : PH} {f a b : Nat} {v : Option Nat} (ci : Nat) (h : b ≠ a) : x_O (x_uR σ f a v) ci b = x_O σ ci b := by
  simp only [x_O]
  exact List.map_congr_left (fun k _ => x_V_uR_ne ci k h)
theorem x_V_uI {σ : PH} {ci k a : Nat} {v : Int32} (hI : x_isI ci k = true) {j : Nat} (hj : j < x_nf ci) (hk : k < x_nf ci) : x_V (x_uI σ (100 * ci + k) a v) ci j a = updV (vp_V (x_O σ ci a)) k (.int v) j := by
  by_cases h : j = k
  · subst h
    simp [x_V, hI, updV, x_uI, x_I, x_up]
  · have h2 : ¬ (100 * ci + j = 100 * ci + k) := by omega
    simp only [updV, if_neg h, x_V_vp σ ci a hj]
    simp [x_V, x_uI, x_I, x_R, x_up, h]
theorem x_V_uR {σ : PH} {ci k a : Nat} {v : Option Nat} (hI : x_isI ci k = false) {j : Nat} (hj : j < x_nf ci) (hk : k < x_nf ci) : x_V (x_uR σ (100 * ci + k) a v) ci j a = updV (vp_V (x_O σ ci a)) k (va_rf v) j := by
  by_cases h : j = k
  · subst h
    simp [x_V, hI, updV, x_uR, x_R, x_up]
  · simp only [updV, if_neg h, x_V_vp σ ci a hj]
    simp [x_V, x_uR, x_I, x_R, x_up, h]
/-- the store behind a change at one address -/
theorem x_Rep.chg {base : Nat} {D : va_G} {dA : Nat → ClassId} {σ τ : PH} {H H1 : Heap} {a : Nat} (h : x_Rep base D dA σ H) (hk : x_K τ = x_K σ) (hL : x_L τ = x_L σ) (hN : x_N τ = x_N σ) (z : H1.size = H.size) (oq : ∀ q : Nat, q ≠ a → H1[q]? = H[q]?)
    (h1 : ∀ ci b, b ≠ a → x_O τ ci b = x_O σ ci b) (h2 : ∀ b, b ≠ a → x_A τ b = x_A σ b) (h3 : ∀ b, b ≠ a → x_Q τ b = x_Q σ b)
    (g1 : ∀ ci, ci < 10 → x_K σ a = ci + 1 → va_at D vwCl (a, .inr (ci, x_O τ ci a)) H1)
    (g2 : ∀ j, j < 2 → x_K σ a = j + 11 → H1[a]? = some (vp_cell (dA j) (x_L σ a, .inl (x_A τ a))))
    (g3 : ∀ j, 2 ≤ j → j < 6 → x_K σ a = j + 11 → H1[a]? = some (vp_cell (dA j) (x_L σ a, .inr (.inr (.inr (.inr (x_Q τ a))))))) : x_Rep base D dA τ H1 := by
  obtain ⟨r1, r2, r3, r4, r5, r6⟩ := h
  refine ⟨fun ci b hc hb => ?_, fun j b hj hb => ?_, fun j b hj hj2 hb => ?_, ?_, ?_, ?_⟩
  · rw [hk] at hb
    by_cases e : b = a
    · subst e; exact g1 ci hc hb
    · rw [h1 ci b e]
      exact (r1 ci b hc hb).kept (oq b e)
  · rw [hk] at hb
    rw [hL]
    by_cases e : b = a
    · subst e; exact g2 j hj hb
    · rw [h2 b e, oq b e]; exact r2 j b hj hb
  · rw [hk] at hb
    rw [hL]
    by_cases e : b = a
    · subst e; exact g3 j hj hj2 hb
    · rw [h3 b e, oq b e]; exact r3 j b hj hj2 hb
  · rw [hk, hN]; exact r4
  · rw [hN, z]; exact r5
  · rw [hN]; exact r6
/-- the store behind a cell more -/
theorem x_Rep.grow {base : Nat} {D : va_G} {dA : Nat → ClassId} {σ τ : PH} {H H1 : Heap} (h : x_Rep base D dA σ H) (hk : ∀ b, b ≠ x_N σ → x_K τ b = x_K σ b) (hL : ∀ b, b ≠ x_N σ → x_L τ b = x_L σ b) (hN : x_N τ = x_N σ + 1) (z : H1.size = H.size + 1) (oq : ∀ q : Nat, q < H.size → H1[q]? = H[q]?)
    (h1 : ∀ ci b, b ≠ x_N σ → x_O τ ci b = x_O σ ci b) (h2 : ∀ b, b ≠ x_N σ → x_A τ b = x_A σ b) (h3 : ∀ b, b ≠ x_N σ → x_Q τ b = x_Q σ b)
    (g1 : ∀ ci, ci < 10 → x_K τ (x_N σ) = ci + 1 → va_at D vwCl (x_N σ, .inr (ci, x_O τ ci (x_N σ))) H1)
    (g2 : ∀ j, j < 2 → x_K τ (x_N σ) = j + 11 → H1[x_N σ]? = some (vp_cell (dA j) (x_L τ (x_N σ), .inl (x_A τ (x_N σ)))))
    (g3 : ∀ j, 2 ≤ j → j < 6 → x_K τ (x_N σ) = j + 11 → H1[x_N σ]? = some (vp_cell (dA j) (x_L τ (x_N σ), .inr (.inr (.inr (.inr (x_Q τ (x_N σ)))))))) : x_Rep base D dA τ H1 := by
  obtain ⟨r1, r2, r3, r4, r5, r6⟩ := h
  have lt : ∀ b, b ≠ x_N σ → x_K τ b ≠ 0 → b < x_N σ := fun b e hb => (r4 b (by rw [← hk b e]; exact hb)).2
  refine ⟨fun ci b hc hb => ?_, fun j b hj hb => ?_, fun j b hj hj2 hb => ?_, fun b hb => ?_, ?_, ?_⟩
  · by_cases e : b = x_N σ
    · subst e; exact g1 ci hc hb
    · have l := lt b e (by omega)
      rw [hk b e] at hb
      rw [h1 ci b e]
      exact (r1 ci b hc hb).kept (oq b (by omega))
  · by_cases e : b = x_N σ
    · subst e; exact g2 j hj hb
    · have l := lt b e (by omega)
      rw [hk b e] at hb
      rw [h2 b e, hL b e, oq b (by omega)]
      exact r2 j b hj hb
  · by_cases e : b = x_N σ
    · subst e; exact g3 j hj hj2 hb
    · have l := lt b e (by omega)
      rw [hk b e] at hb
      rw [h3 b e, hL b e, oq b (by omega)]
      exact r3 j b hj hj2 hb
  · by_cases e : b = x_N σ
    · subst e; exact ⟨r6, by omega⟩
    · rw [hk b e] at hb
      have := r4 b hb
      exact ⟨this.1, by omega⟩
  · omega
  · omega
