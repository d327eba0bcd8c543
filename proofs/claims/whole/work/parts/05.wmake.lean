theorem x_tyOK : ∀ ci, ci < 10 → ∀ k, k < x_nf ci → (x_isI ci k = true ∧ defaultValue (x_ty ci k) = .int 0) ∨ (x_isI ci k = false ∧ defaultValue (x_ty ci k) = .null) := by
  have h : ∀ ci, ci < 10 → ∀ k, k < 50 → k < x_nf ci → (x_isI ci k = true ∧ defaultValue (x_ty ci k) = .int 0) ∨ (x_isI ci k = false ∧ defaultValue (x_ty ci k) = .null) := by decide +kernel
  intro ci hc k hk
  have : x_nf ci ≤ 50 := by
    unfold x_nf
    split <;> omega
  exact h ci hc k (by omega) hk
def x_clk (own : String) (index ci : Nat) : Prop := ci < 10 ∧ Cond.classLink own index (x_nm ci) ∈ x_all
section XN
variable {p : Program} {l : Launch} {e : Env} {R : Room} {s : State} {m : MethodId} {args : Array Value} {below : List Frame} {meth : Method} {c : Code} {H : Heap} {locs : List Loc} {Q : State → Prop}
variable {cc : ByteArray} {nL : Nat} {own : String} {base : Nat} {D : va_G} {dA : Nat → ClassId} {σ0 σE σ : PH} {pc : Nat} {ls : Array Slot} {rest : List Value}
variable {α : Type} {z : α × PH}
theorem x_va_S_push {A : Nat → Prop} {H0 H H1 : Heap} (h : va_S A H0 H locs) (z1 : H1.size = H.size + 1) (oq : ∀ q : Nat, q < H.size → H1[q]? = H[q]?) : va_S A H0 H1 locs := ⟨Nat.le_trans h.1 (by omega), fun x h1 h2 => (oq x (Nat.lt_of_lt_of_le h1 h.1)).trans (h.2.1 x h1 h2), h.2.2⟩
theorem w_new (E : x_E p s m args c cc nL own D dA) (S : x_S base D dA R s σ0 z.2 σ H locs) {ci index : Nat} {kf : Option Nat → PM α} (hM : x_rn (x_bd (x_mO ci) kf) σ = some z) (lk : x_clk own index ci) (hdg : decode cc pc = .ok (.new index, 3))
    (kk : ∀ (q : Nat) (σ : PH) (H : Heap), x_S base D dA R s σ0 z.2 σ H locs → x_rn (kf (some q)) σ = some z → W p l e R s m args below meth c H locs (x_N σ - x_N σ0) (x_U σ - x_U σ0) Q (F0 m (pc + 3) ls (va_rf (some q) :: rest))) : W p l e R s m args below meth c H locs (x_N σ - x_N σ0) (x_U σ - x_U σ0) Q (F0 m pc ls rest) := by
  have hM' : x_rn (kf (some (x_N σ))) (x_nO σ ci) = some z := hM
  have hmo := x_okM hM'
  obtain ⟨hci, hcl⟩ := lk
  obtain ⟨C, T, N, hc, hin, hN, hty, hnm, hC, hins, hini⟩ := x_clA ci hci
  subst hN
  have hn : x_nm ci = C := by simp only [x_nm, hc]
  rw [hn] at hcl
  obtain ⟨hx, hb, hml, hown, hts, hT⟩ := E
  obtain ⟨S1, S2, S3, S4, S5, S6, S7⟩ := S
  have e1 : x_N (x_nO σ ci) = x_N σ + 1 := rfl
  have e2 : x_U (x_nO σ ci) = x_U σ + x_nf ci := rfl
  have hKn := hT.1.1 ci _ hc
  refine W.newcK (h := x_N σ) hx hb hown (hts _ hcl) (hts _ hins) (hts _ hini) rfl hdg (by omega) (by omega) hKn.2.1 S1.2.2.2.2.1 fun H1 kC hkC g1 z1 o1 => ?_
  have hsz : H.size = x_N σ := S1.2.2.2.2.1
  have hrep : x_Rep base D dA (x_nO σ ci) H1 := by
    refine S1.grow (fun b hb => by simp [x_nO, x_K, hb]) (fun b hb => rfl) e1 (by omega) (fun q hq => o1 q (by omega)) (fun c b hb => ?_) (fun _ _ => rfl) (fun _ _ => rfl) (fun c hc1 hc2 => ?_) (fun j hj hj2 => ?_) (fun j hj hj2 hj3 => ?_)
    · simp only [x_O]
      refine List.map_congr_left (fun k _ => ?_)
      simp [x_V, x_nO, x_I, x_R, hb]
    · have hcc : c = ci := by
        have : x_K (x_nO σ ci) (x_N σ) = ci + 1 := by simp [x_nO, x_K]
        omega
      subst hcc
      refine ⟨_, hc, (u_born (x_ty c) hts hin hKn hkC g1 hty).to (fun k hk => ?_)⟩
      rw [x_V_vp _ _ _ hk]
      rcases x_tyOK c hci k hk with ⟨i1, i2⟩ | ⟨i1, i2⟩
      · rw [i2]; simp [x_V, i1, x_nO, x_I]
      · rw [i2]; simp [x_V, i1, x_nO, x_R, va_rf]
    · have : x_K (x_nO σ ci) (x_N σ) = ci + 1 := by simp [x_nO, x_K]
      omega
    · have : x_K (x_nO σ ci) (x_N σ) = ci + 1 := by simp [x_nO, x_K]
      omega
  refine W.widen (k := x_N (x_nO σ ci) - x_N σ0) (n := x_U (x_nO σ ci) - x_U σ0) (by omega) (by omega) ?_
  exact kk (x_N σ) (x_nO σ ci) H1 ⟨hrep, x_va_S_push S2 (by omega) (fun q hq => o1 q (by omega)), S3, by omega, by omega, S6, S7⟩ hM'
theorem x_nA_rep {kd n : Nat} {H1 : Heap} (S1 : x_Rep base D dA σ H) (hkd : kd < 6) (z1 : H1.size = H.size + 1) (o1 : ∀ q : Nat, q < H.size → H1[q]? = H[q]?) (g : H1[H.size]? = some (arrV (dA kd) n (fun _ => defaultValue (x_tyA kd)))) : x_Rep base D dA (x_nA σ kd n) H1 := by
  have hsz : H.size = x_N σ := S1.2.2.2.2.1
  have hk0 : x_K (x_nA σ kd n) (x_N σ) = kd + 11 := by simp [x_nA, x_K]
  have hl0 : x_L (x_nA σ kd n) (x_N σ) = n := by simp [x_nA, x_L]
  refine S1.grow (fun b hb => by simp [x_nA, x_K, hb]) (fun b hb => by simp [x_nA, x_L, hb]) rfl (by omega) o1 (fun c b hb => rfl) (fun b hb => by funext i; simp [x_nA, x_A, hb]) (fun b hb => by funext i; simp [x_nA, x_Q, hb]) (fun c hc1 hc2 => ?_) (fun j hj hj2 => ?_) (fun j hj hj2 hj3 => ?_)
  · omega
  · have : j = kd := by omega
    subst this
    rw [hl0, ← hsz, g, vp_cell_i]
    have hd : defaultValue (x_tyA j) = .int 0 := by
      have : j = 0 ∨ j = 1 := by omega
      rcases this with rfl | rfl <;> rfl
    have ha : x_A (x_nA σ j n) H.size = fun _ => 0 := by funext i; simp [x_nA, x_A, hsz]
    rw [hd, ha]
  · have : j = kd := by omega
    subst this
    rw [hl0, ← hsz, g, vp_cell_q]
    have hd : defaultValue (x_tyA j) = .null := by rw [x_tyA_o hj]; rfl
    have ha : x_Q (x_nA σ j n) H.size = fun _ => none := by funext i; simp [x_nA, x_Q, hsz]
    rw [hd, ha]
    rfl
theorem w_newa (E : x_E p s m args c cc nL own D dA) (S : x_S base D dA R s σ0 z.2 σ H locs) {kd : Nat} {n : Int32} {atype : ArrayType} {kf : Option Nat → PM α} (hM : x_rn (x_bd (x_mA kd n) kf) σ = some z) (hkd : kd < 2 ∧ newarray.typeOf atype = x_tyA kd ∧ Cond.arrayClass (newarray.typeOf atype) ∈ x_all) (hdg : decode cc pc = .ok (.newarray atype, 2))
    (kk : ∀ (q : Nat) (σ : PH) (H : Heap), x_S base D dA R s σ0 z.2 σ H locs → x_rn (kf (some q)) σ = some z → W p l e R s m args below meth c H locs (x_N σ - x_N σ0) (x_U σ - x_U σ0) Q (F0 m (pc + 2) ls (va_rf (some q) :: rest))) : W p l e R s m args below meth c H locs (x_N σ - x_N σ0) (x_U σ - x_U σ0) Q (F0 m pc ls (.int n :: rest)) := by
  obtain ⟨a, τ, h1, hM'⟩ := x_okB hM
  have h1' : (if n < 0 ∨ 65536 < n.toNatClampNeg then none else some (some (x_N σ), x_nA σ kd n.toNatClampNeg)) = some (a, τ) := h1
  split at h1'
  case isTrue => cases h1'
  rename_i hn
  cases h1'
  have hmo := x_okM hM'
  obtain ⟨hx, hb, hml, hown, hts, hT⟩ := E
  obtain ⟨S1, S2, S3, S4, S5, S6, S7⟩ := S
  have e1 : x_N (x_nA σ kd n.toNatClampNeg) = x_N σ + 1 := rfl
  have e2 : x_U (x_nA σ kd n.toNatClampNeg) = x_U σ + n.toNatClampNeg := rfl
  have hsz : H.size = x_N σ := S1.2.2.2.2.1
  have hby : n.toNatClampNeg * componentBytes (newarray.typeOf atype) ≤ 536870912 := by
    have hb : componentBytes (newarray.typeOf atype) ≤ 8 := by cases atype <;> decide
    have : n.toNatClampNeg ≤ 65536 := by omega
    calc n.toNatClampNeg * componentBytes (newarray.typeOf atype) ≤ 65536 * 8 := Nat.mul_le_mul this hb
      _ ≤ 536870912 := by decide
  refine va_newaK (h := x_N σ) hx hb (hts _ hkd.2.2) rfl hdg rfl (fun q => hn (Or.inl q)) rfl hby (by omega) (by omega) hsz fun H1 cA g1 z1 o1 hAr hNm => ?_
  have hcA : cA = dA kd := by
    have h := (hT.ty (j := kd) (by omega)).2
    have h2 : va_RA s cA (x_tyA kd) := by
      rw [← hkd.2.1]
      cases atype <;> exact hNm
    have hj : kd = 0 ∨ kd = 1 := by omega
    rcases hj with rfl | rfl
    · exact Option.some.inj ((show s.vm.findClass _ = some cA from h2).symm.trans (show s.vm.findClass _ = some (dA 0) from h))
    · exact Option.some.inj ((show s.vm.findClass _ = some cA from h2).symm.trans (show s.vm.findClass _ = some (dA 1) from h))
  subst hcA
  refine W.widen (k := x_N (x_nA σ kd n.toNatClampNeg) - x_N σ0) (n := x_U (x_nA σ kd n.toNatClampNeg) - x_U σ0) (by omega) (by omega) ?_
  exact kk (x_N σ) (x_nA σ kd n.toNatClampNeg) H1 ⟨x_nA_rep S1 (by omega) (by omega) (fun q hq => o1 q (by omega)) (by rw [hsz, g1, hkd.2.1]), x_va_S_push S2 (by omega) (fun q hq => o1 q (by omega)), S3, by omega, by omega, S6, S7⟩ hM'
theorem w_newq (E : x_E p s m args c cc nL own D dA) (S : x_S base D dA R s σ0 z.2 σ H locs) {kd index : Nat} {n : Int32} {kf : Option Nat → PM α} (hM : x_rn (x_bd (x_mA kd n) kf) σ = some z) (hkd : 2 ≤ kd ∧ kd < 6) (hcl : Cond.classLink own index (x_eC kd) ∈ x_all) (hdg : decode cc pc = .ok (.anewarray index, 3))
    (kk : ∀ (q : Nat) (σ : PH) (H : Heap), x_S base D dA R s σ0 z.2 σ H locs → x_rn (kf (some q)) σ = some z → W p l e R s m args below meth c H locs (x_N σ - x_N σ0) (x_U σ - x_U σ0) Q (F0 m (pc + 3) ls (va_rf (some q) :: rest))) : W p l e R s m args below meth c H locs (x_N σ - x_N σ0) (x_U σ - x_U σ0) Q (F0 m pc ls (.int n :: rest)) := by
  obtain ⟨a, τ, h1, hM'⟩ := x_okB hM
  have h1' : (if n < 0 ∨ 65536 < n.toNatClampNeg then none else some (some (x_N σ), x_nA σ kd n.toNatClampNeg)) = some (a, τ) := h1
  split at h1'
  case isTrue => cases h1'
  rename_i hn
  cases h1'
  have hmo := x_okM hM'
  obtain ⟨hx, hb, hml, hown, hts, hT⟩ := E
  obtain ⟨S1, S2, S3, S4, S5, S6, S7⟩ := S
  have e1 : x_N (x_nA σ kd n.toNatClampNeg) = x_N σ + 1 := rfl
  have e2 : x_U (x_nA σ kd n.toNatClampNeg) = x_U σ + n.toNatClampNeg := rfl
  have hsz : H.size = x_N σ := S1.2.2.2.2.1
  refine W.anew hx hb hown (hts _ hcl) (va_AO.use (hT.2 kd hkd.1 hkd.2)) rfl hdg rfl (fun q => hn (Or.inl q)) (by omega) (by omega) (by omega) fun cA kA comp f1 f2 f3 f4 => ?_
  generalize hH1 : H.push ({ cls := cA, slots := Array.replicate n.toNatClampNeg .null, vm := .none } : Cell) = H1
  have z1 : H1.size = H.size + 1 := by rw [← hH1, Array.size_push]
  have g1 : H1[H.size]? = some (arrV cA n.toNatClampNeg (fun _ => .null)) := by rw [← hH1, Array.getElem?_push_size, ← arrV_new]
  have o1 : ∀ q : Nat, q < H.size → H1[q]? = H[q]? := fun q hq => by rw [← hH1, Array.getElem?_push, if_neg (Nat.ne_of_lt hq)]
  have hcA : cA = dA kd := by
    have h := (hT.ty (j := kd) hkd.2).2
    rw [x_tyA_o hkd.1] at h
    obtain ⟨_, _, _, _, _, h4⟩ := h
    exact Option.some.inj (f1.symm.trans h4)
  subst hcA
  rw [hsz]
  refine W.widen (k := x_N (x_nA σ kd n.toNatClampNeg) - x_N σ0) (n := x_U (x_nA σ kd n.toNatClampNeg) - x_U σ0) (by omega) (by omega) ?_
  exact kk (x_N σ) (x_nA σ kd n.toNatClampNeg) H1 ⟨x_nA_rep S1 hkd.2 z1 o1 (by rw [g1, x_tyA_o hkd.1]; rfl), x_va_S_push S2 z1 o1, S3, by omega, by omega, S6, S7⟩ hM'
end XN
