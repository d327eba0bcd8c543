def x_fin (ci k : Nat) : Bool := match vwCl[ci]? with
  | some q => (q.2.1 k).2.2.2
  | none => false
def x_nm (ci : Nat) : String := match vwCl[ci]? with
  | some q => q.1
  | none => ""
theorem x_P1 {D : va_G} {cl : List vw_C} {q : Nat × va_E} {H : Heap} (h : va_at D cl q H) : va_P D cl [q] H := by
  intro k x hx
  cases k with
  | zero => cases hx; exact h
  | succ k => simp at hx
theorem x_narI (v : Int32) : narrow .int (.int v) = .int v ∧ fits .int (.int v) = true := ⟨rfl, rfl⟩
theorem x_narZ {v : Int32} (h : v = 0 ∨ v = 1) : narrow .boolean (.int v) = .int v ∧ fits .boolean (.int v) = true := by
  rcases h with rfl | rfl <;> exact ⟨rfl, rfl⟩
theorem x_narR {t : FieldType} (h : x_isT t = false) (ho : (∃ n, t = .object n) ∨ ∃ n, t = .array n) (r : Option Nat) : narrow t (va_rf r) = va_rf r ∧ fits t (va_rf r) = true := by
  rcases ho with ⟨n, rfl⟩ | ⟨n, rfl⟩ <;> cases r <;> exact ⟨rfl, rfl⟩
def x_isR (t : FieldType) : Bool := match t with
  | .object _ => true
  | .array _ => true
  | _ => false
theorem x_isR_of {t : FieldType} (h : x_isR t = true) : (∃ n, t = .object n) ∨ ∃ n, t = .array n := by
  cases t <;> first | exact Or.inl ⟨_, rfl⟩ | exact Or.inr ⟨_, rfl⟩ | cases h
section XW
variable {p : Program} {l : Launch} {e : Env} {R : Room} {s : State} {m : MethodId} {args : Array Value} {below : List Frame} {meth : Method} {c : Code} {H : Heap} {locs : List Loc} {Q : State → Prop}
variable {cc : ByteArray} {nL : Nat} {own : String} {base : Nat} {D : va_G} {dA : Nat → ClassId} {σ0 σE σ : PH} {pc : Nat} {ls : Array Slot} {rest : List Value}
variable {α : Type} {z : α × PH}
theorem w_rI (E : x_E p s m args c cc nL own D dA) (S : x_S base D dA R s σ0 σE σ H locs) {r : Option Nat} {ci k index : Nat} {kf : Int32 → PM α} (hM : x_rn (x_bd (x_rI r ci k) kf) σ = some z) (lk : x_lk own index ci k) (hI : x_isI ci k = true) (hdg : decode cc pc = .ok (.getfield index, 3))
    (kk : ∀ v : Int32, x_rn (kf v) σ = some z → W p l e R s m args below meth c H locs (x_N σ - x_N σ0) (x_U σ - x_U σ0) Q (F0 m (pc + 3) ls (.int v :: rest))) : W p l e R s m args below meth c H locs (x_N σ - x_N σ0) (x_U σ - x_U σ0) Q (F0 m pc ls (va_rf r :: rest)) := by
  obtain ⟨v, hv, hM'⟩ := x_okA hM
  obtain ⟨a, ha, rfl⟩ := x_map_some hv
  obtain ⟨rfl, hKa⟩ := x_dr_some ha
  obtain ⟨hci, hk, hl⟩ := lk
  obtain ⟨C, T, N, hc, hin, hN, hty, hnm, hC, _, _⟩ := x_clA ci hci
  subst hN
  obtain ⟨hx, hb, hml, hown, hts, hT⟩ := E
  exact va_get (v := .int (x_I σ (100 * ci + k) a)) (ws := [(a, .inr (ci, x_O σ ci a))]) hx hb hts hin hown hT.1 (x_P1 (S.1.1 ci a hci hKa)) 0 rfl hc k hk (hts _ (hl C T _ hc)) (fun _ h => h) (by rw [x_O_get σ ci a hk]; simp [x_V, hI]) hdg (kk _ hM')
theorem w_rR (E : x_E p s m args c cc nL own D dA) (S : x_S base D dA R s σ0 σE σ H locs) {r : Option Nat} {ci k index : Nat} {kf : Option Nat → PM α} (hM : x_rn (x_bd (x_rR r ci k) kf) σ = some z) (lk : x_lk own index ci k) (hI : x_isI ci k = false) (hdg : decode cc pc = .ok (.getfield index, 3))
    (kk : ∀ v : Option Nat, x_rn (kf v) σ = some z → W p l e R s m args below meth c H locs (x_N σ - x_N σ0) (x_U σ - x_U σ0) Q (F0 m (pc + 3) ls (va_rf v :: rest))) : W p l e R s m args below meth c H locs (x_N σ - x_N σ0) (x_U σ - x_U σ0) Q (F0 m pc ls (va_rf r :: rest)) := by
  obtain ⟨v, hv, hM'⟩ := x_okA hM
  obtain ⟨a, ha, rfl⟩ := x_map_some hv
  obtain ⟨rfl, hKa⟩ := x_dr_some ha
  obtain ⟨hci, hk, hl⟩ := lk
  obtain ⟨C, T, N, hc, hin, hN, hty, hnm, hC, _, _⟩ := x_clA ci hci
  subst hN
  obtain ⟨hx, hb, hml, hown, hts, hT⟩ := E
  exact va_get (v := va_rf (x_R σ (100 * ci + k) a)) (ws := [(a, .inr (ci, x_O σ ci a))]) hx hb hts hin hown hT.1 (x_P1 (S.1.1 ci a hci hKa)) 0 rfl hc k hk (hts _ (hl C T _ hc)) (fun _ h => h) (by rw [x_O_get σ ci a hk]; simp [x_V, hI]) hdg (kk _ hM')
/-- any putfield -/
theorem w_putc (E : x_E p s m args c cc nL own D dA) (S : x_S base D dA R s σ0 σE σ H locs) {a ci k index : Nat} {v : Value} {cells slots : Nat} (hKa : x_K σ a = ci + 1) (lk : x_lk own index ci k) (hw : x_fin ci k = false ∨ (meth.name = "<init>" ∧ x_fin ci k = true ∧ x_nm ci = own)) (hv : narrow (x_ty ci k) v = v ∧ fits (x_ty ci k) v = true) (hdg : decode cc pc = .ok (.putfield index, 3))
    (kk : ∀ (H1 : Heap) (locs1 : List Loc), (∀ V : List Value, V.length = x_nf ci → (∀ j, j < x_nf ci → updV (vp_V (x_O σ ci a)) k v j = vp_V V j) → va_at D vwCl (a, .inr (ci, V)) H1) → H1.size = H.size → (∀ q : Nat, q ≠ a → H1[q]? = H[q]?) → va_S (fun q => base ≤ q) s.heap H1 locs1 → W p l e R s m args below meth c H1 locs1 cells slots Q (F0 m (pc + 3) ls rest)) : W p l e R s m args below meth c H locs cells slots Q (F0 m pc ls (v :: .ref a :: rest)) := by
  obtain ⟨hci, hk, hl⟩ := lk
  obtain ⟨C, T, N, hc, hin, hN, hty, hnm, hC, _, _⟩ := x_clA ci hci
  subst hN
  obtain ⟨hx, hb, hml, hown, hts, hT⟩ := E
  have hlink := hts _ (hl C T _ hc)
  have hf : x_fin ci k = (T k).2.2.2 := by simp only [x_fin, hc]
  have hn : x_nm ci = C := by simp only [x_nm, hc]
  have hba : base ≤ a := (S.1.2.2.2.1 a (by omega)).1
  have hap := va_apart (own := own) hts hin (x_ty ci) hty hnm hT.1 hc
  obtain ⟨r, h1, cell, q1, q2, q3, q4⟩ := S.1.1 ci a hci hKa
  have hr : r = (C, T, x_nf ci) := Option.some.inj (h1.symm.trans hc)
  subst hr
  obtain ⟨hS, hfc, kC, hkC, hkind⟩ := hT.1.1 ci _ hc
  obtain ⟨cf, kf, fi, f, hi, hsl⟩ := hS k hk
  have hlay := hts _ (hin _ (u_in_lay hk))
  unfold u_lay at hlay
  have hst := (u_facts hfc hkC (u_lays hts hin hk) hi).1
  rcases hw with hw | ⟨hin2, hw, hno⟩
  · rw [if_neg (by rw [← hf, hw]; decide)] at hlay
    have h6 := u_store hfc hkC hkind hlay hi (hty k hk) hv.1 hv.2
    refine W.putK hx hb (f := f) ⟨hown, hlink, ⟨_, _, _, hi⟩, hst⟩ (by rw [q2]; exact h6) q1 q3 (by rw [hsl]; exact k2_hasslot (q4 k hk)) rfl rfl hdg fun H' e1 e2 e3 => ?_
    rw [hsl] at e1 ⊢
    exact kk H' _ (fun V _ hV => ⟨_, hc, t_OB.to (V := updV (vp_V (x_O σ ci a)) k v) ⟨_, e1, q2, q3, t_set q4 hap hk v⟩ hV⟩) e2 e3 (S.2.1.put e2 e3 hba)
  · rw [if_pos (by rw [← hf, hw])] at hlay
    have hcf : m.cls = cf := by
      obtain ⟨_, _, c', _, _, _, -, -, hf', -, -, -, hown2, -⟩ := Cond.laysFinal_spec hlay
      have e1 : c' = cf := by have := hi.symm.trans hf'; simp at this; exact this.1.symm
      rw [hC k hk, ← hn, hno] at hown2
      rw [← e1]; exact Option.some.inj (hown.symm.trans hown2)
    have h6 := u_fits hfc hkC hkind (Or.inr hlay) hi (hty k hk) hv.1 hv.2
    refine W.putFinK hx hb hown hlink hi hst hcf hin2 (by rw [q2]; exact h6) q1 q3 (by rw [hsl]; exact k2_hasslot (q4 k hk)) rfl rfl hdg fun H' e1 e2 e3 => ?_
    rw [hsl] at e1 ⊢
    exact kk H' _ (fun V _ hV => ⟨_, hc, t_OB.to (V := updV (vp_V (x_O σ ci a)) k v) ⟨_, e1, q2, q3, t_set q4 hap hk v⟩ hV⟩) e2 e3 (S.2.1.put e2 e3 hba)
theorem x_S.uI (S : x_S base D dA R s σ0 σE σ H locs) {a ci k : Nat} {v : Int32} {H1 : Heap} {locs1 : List Loc} (hci : ci < 10) (hk : k < x_nf ci) (hKa : x_K σ a = ci + 1) (hI : x_isI ci k = true) (h1 : ∀ V : List Value, V.length = x_nf ci → (∀ j, j < x_nf ci → updV (vp_V (x_O σ ci a)) k (.int v) j = vp_V V j) → va_at D vwCl (a, .inr (ci, V)) H1) (z : H1.size = H.size) (oq : ∀ q : Nat, q ≠ a → H1[q]? = H[q]?) (hS : va_S (fun q => base ≤ q) s.heap H1 locs1) : x_S base D dA R s σ0 σE (x_uI σ (100 * ci + k) a v) H1 locs1 := by
  refine ⟨S.1.chg (a := a) rfl rfl rfl z oq (fun c b hb => x_O_uI_ne c hb) (fun _ _ => rfl) (fun _ _ => rfl) (fun c hc hc2 => ?_) (fun j hj hj2 => ?_) (fun j hj hj2 hj3 => ?_), hS, S.2.2⟩
  · have : c = ci := by omega
    subst this
    refine h1 _ (x_O_len _ _ _) (fun j hj => ?_)
    rw [x_V_vp _ _ _ hj, x_V_uI hI hj hk]
  · omega
  · omega
theorem x_S.uR (S : x_S base D dA R s σ0 σE σ H locs) {a ci k : Nat} {v : Option Nat} {H1 : Heap} {locs1 : List Loc} (hci : ci < 10) (hk : k < x_nf ci) (hKa : x_K σ a = ci + 1) (hI : x_isI ci k = false) (h1 : ∀ V : List Value, V.length = x_nf ci → (∀ j, j < x_nf ci → updV (vp_V (x_O σ ci a)) k (va_rf v) j = vp_V V j) → va_at D vwCl (a, .inr (ci, V)) H1) (z : H1.size = H.size) (oq : ∀ q : Nat, q ≠ a → H1[q]? = H[q]?) (hS : va_S (fun q => base ≤ q) s.heap H1 locs1) : x_S base D dA R s σ0 σE (x_uR σ (100 * ci + k) a v) H1 locs1 := by
  refine ⟨S.1.chg (a := a) rfl rfl rfl z oq (fun c b hb => x_O_uR_ne c hb) (fun _ _ => rfl) (fun _ _ => rfl) (fun c hc hc2 => ?_) (fun j hj hj2 => ?_) (fun j hj hj2 hj3 => ?_), hS, S.2.2⟩
  · have : c = ci := by omega
    subst this
    refine h1 _ (x_O_len _ _ _) (fun j hj => ?_)
    rw [x_V_vp _ _ _ hj, x_V_uR hI hj hk]
  · omega
  · omega
theorem w_wI (E : x_E p s m args c cc nL own D dA) (S : x_S base D dA R s σ0 σE σ H locs) {r : Option Nat} {ci k index : Nat} {v : Int32} {kf : Unit → PM α} (hM : x_rn (x_bd (x_wI r ci k v) kf) σ = some z) (lk : x_lk own index ci k) (hI : x_ty ci k = .int) (hw : x_fin ci k = false ∨ (meth.name = "<init>" ∧ x_fin ci k = true ∧ x_nm ci = own)) (hdg : decode cc pc = .ok (.putfield index, 3))
    (kk : ∀ (σ : PH) (H : Heap) (locs : List Loc), x_S base D dA R s σ0 σE σ H locs → x_rn (kf ()) σ = some z → W p l e R s m args below meth c H locs (x_N σ - x_N σ0) (x_U σ - x_U σ0) Q (F0 m (pc + 3) ls rest)) : W p l e R s m args below meth c H locs (x_N σ - x_N σ0) (x_U σ - x_U σ0) Q (F0 m pc ls (.int v :: va_rf r :: rest)) := by
  obtain ⟨τ, hv, hM'⟩ := x_okP hM
  obtain ⟨a, ha, rfl⟩ := x_map_some hv
  obtain ⟨rfl, hKa⟩ := x_dr_some ha
  refine w_putc (v := .int v) E S hKa lk hw (by rw [hI]; exact x_narI v) hdg (fun H1 locs1 h1 z1 oq hS => ?_)
  exact kk (x_uI σ (100 * ci + k) a v) H1 locs1 (S.uI lk.1 lk.2.1 hKa (by simp [x_isI, hI, x_isT]) h1 z1 oq hS) hM'
theorem w_wZ (E : x_E p s m args c cc nL own D dA) (S : x_S base D dA R s σ0 σE σ H locs) {r : Option Nat} {ci k index : Nat} {v : Int32} {kf : Unit → PM α} (hM : x_rn (x_bd (x_wZ r ci k v) kf) σ = some z) (lk : x_lk own index ci k) (hI : x_ty ci k = .boolean) (hw : x_fin ci k = false ∨ (meth.name = "<init>" ∧ x_fin ci k = true ∧ x_nm ci = own)) (hdg : decode cc pc = .ok (.putfield index, 3))
    (kk : ∀ (σ : PH) (H : Heap) (locs : List Loc), x_S base D dA R s σ0 σE σ H locs → x_rn (kf ()) σ = some z → W p l e R s m args below meth c H locs (x_N σ - x_N σ0) (x_U σ - x_U σ0) Q (F0 m (pc + 3) ls rest)) : W p l e R s m args below meth c H locs (x_N σ - x_N σ0) (x_U σ - x_U σ0) Q (F0 m pc ls (.int v :: va_rf r :: rest)) := by
  obtain ⟨τ, hv, hM'⟩ := x_okP hM
  split at hv
  case isFalse => cases hv
  rename_i hz
  obtain ⟨a, ha, rfl⟩ := x_map_some hv
  obtain ⟨rfl, hKa⟩ := x_dr_some ha
  refine w_putc (v := .int v) E S hKa lk hw (by rw [hI]; exact x_narZ hz) hdg (fun H1 locs1 h1 z1 oq hS => ?_)
  exact kk (x_uI σ (100 * ci + k) a v) H1 locs1 (S.uI lk.1 lk.2.1 hKa (by simp [x_isI, hI, x_isT]) h1 z1 oq hS) hM'
theorem w_wR (E : x_E p s m args c cc nL own D dA) (S : x_S base D dA R s σ0 σE σ H locs) {r v : Option Nat} {ci k index : Nat} {kf : Unit → PM α} (hM : x_rn (x_bd (x_wR r ci k v) kf) σ = some z) (lk : x_lk own index ci k) (hI : x_isR (x_ty ci k) = true) (hw : x_fin ci k = false ∨ (meth.name = "<init>" ∧ x_fin ci k = true ∧ x_nm ci = own)) (hdg : decode cc pc = .ok (.putfield index, 3))
    (kk : ∀ (σ : PH) (H : Heap) (locs : List Loc), x_S base D dA R s σ0 σE σ H locs → x_rn (kf ()) σ = some z → W p l e R s m args below meth c H locs (x_N σ - x_N σ0) (x_U σ - x_U σ0) Q (F0 m (pc + 3) ls rest)) : W p l e R s m args below meth c H locs (x_N σ - x_N σ0) (x_U σ - x_U σ0) Q (F0 m pc ls (va_rf v :: va_rf r :: rest)) := by
  obtain ⟨τ, hv, hM'⟩ := x_okP hM
  obtain ⟨a, ha, rfl⟩ := x_map_some hv
  obtain ⟨rfl, hKa⟩ := x_dr_some ha
  have hI2 : x_isI ci k = false := by
    unfold x_isI
    rcases x_isR_of hI with ⟨n, e⟩ | ⟨n, e⟩ <;> rw [e] <;> rfl
  refine w_putc (v := va_rf v) E S hKa lk hw (x_narR hI2 (x_isR_of hI) v) hdg (fun H1 locs1 h1 z1 oq hS => ?_)
  exact kk (x_uR σ (100 * ci + k) a v) H1 locs1 (S.uR lk.1 lk.2.1 hKa hI2 h1 z1 oq hS) hM'
/-! arrays -/
theorem w_aI (E : x_E p s m args c cc nL own D dA) (S : x_S base D dA R s σ0 σE σ H locs) {r : Option Nat} {i : Int32} {kf : Int32 → PM α} (hM : x_rn (x_bd (x_aI 0 r i) kf) σ = some z) (hdg : decode cc pc = .ok (.iaload, 1))
    (kk : ∀ v : Int32, x_rn (kf v) σ = some z → W p l e R s m args below meth c H locs (x_N σ - x_N σ0) (x_U σ - x_U σ0) Q (F0 m (pc + 1) ls (.int v :: rest))) : W p l e R s m args below meth c H locs (x_N σ - x_N σ0) (x_U σ - x_U σ0) Q (F0 m pc ls (.int i :: va_rf r :: rest)) := by
  obtain ⟨v, hv, hM'⟩ := x_okA hM
  obtain ⟨a, ha, rfl⟩ := x_map_some hv
  obtain ⟨rfl, hKa, hi⟩ := x_ix_some ha
  obtain ⟨hx, hb, hml, hown, hts, hT⟩ := E
  exact va_iald (ws := [(a, .inl (dA 0, x_L σ a, .inl (x_A σ a)))]) (cl := vwCl) hx hb hT.1 (x_P1 (S.1.2.1 0 a (by omega) hKa)) 0 0 rfl rfl hi hdg (kk _ hM')
theorem w_aZ (E : x_E p s m args c cc nL own D dA) (S : x_S base D dA R s σ0 σE σ H locs) {r : Option Nat} {i : Int32} {kf : Int32 → PM α} (hM : x_rn (x_bd (x_aI 1 r i) kf) σ = some z) (hdg : decode cc pc = .ok (.baload, 1))
    (kk : ∀ v : Int32, x_rn (kf v) σ = some z → W p l e R s m args below meth c H locs (x_N σ - x_N σ0) (x_U σ - x_U σ0) Q (F0 m (pc + 1) ls (.int v :: rest))) : W p l e R s m args below meth c H locs (x_N σ - x_N σ0) (x_U σ - x_U σ0) Q (F0 m pc ls (.int i :: va_rf r :: rest)) := by
  obtain ⟨v, hv, hM'⟩ := x_okA hM
  obtain ⟨a, ha, rfl⟩ := x_map_some hv
  obtain ⟨rfl, hKa, hi⟩ := x_ix_some ha
  obtain ⟨hx, hb, hml, hown, hts, hT⟩ := E
  exact va_zald (ws := [(a, .inl (dA 1, x_L σ a, .inl (x_A σ a)))]) (cl := vwCl) hx hb hT.1 (x_P1 (S.1.2.1 1 a (by omega) hKa)) 0 1 rfl rfl hi hdg (kk _ hM')
theorem x_tyA_o {j : Nat} (h : 2 ≤ j) : x_tyA j = .object (x_eC j) := by
  unfold x_tyA
  rw [if_neg (by omega), if_neg (by omega)]
theorem x_tys_get (dA : Nat → ClassId) {j : Nat} (h2 : j < 6) : (x_tys dA)[j]? = some (dA j, x_tyA j) := by simp [x_tys, h2]
theorem w_aQ (E : x_E p s m args c cc nL own D dA) (S : x_S base D dA R s σ0 σE σ H locs) {kd : Nat} {r : Option Nat} {i : Int32} {kf : Option Nat → PM α} (hM : x_rn (x_bd (x_aQ kd r i) kf) σ = some z) (hk : 2 ≤ kd ∧ kd < 6) (hdg : decode cc pc = .ok (.aaload, 1))
    (kk : ∀ v : Option Nat, x_rn (kf v) σ = some z → W p l e R s m args below meth c H locs (x_N σ - x_N σ0) (x_U σ - x_U σ0) Q (F0 m (pc + 1) ls (va_rf v :: rest))) : W p l e R s m args below meth c H locs (x_N σ - x_N σ0) (x_U σ - x_U σ0) Q (F0 m pc ls (.int i :: va_rf r :: rest)) := by
  obtain ⟨v, hv, hM'⟩ := x_okA hM
  obtain ⟨a, ha, rfl⟩ := x_map_some hv
  obtain ⟨rfl, hKa, hi⟩ := x_ix_some ha
  obtain ⟨hx, hb, hml, hown, hts, hT⟩ := E
  exact va_aldq (C := x_eC kd) (ws := [(a, .inl (dA kd, x_L σ a, .inr (.inr (.inr (.inr (x_Q σ a))))))]) (cl := vwCl) hx hb hT.1 (x_P1 (S.1.2.2.1 kd a hk.1 hk.2 hKa)) 0 kd rfl (by rw [x_tys_get dA hk.2, x_tyA_o hk.1]) hi hdg (kk _ hM')
theorem w_aL (E : x_E p s m args c cc nL own D dA) (S : x_S base D dA R s σ0 σE σ H locs) {kd : Nat} {r : Option Nat} {kf : Int32 → PM α} (hM : x_rn (x_bd (x_aL kd r) kf) σ = some z) (hk : kd < 6) (hdg : decode cc pc = .ok (.arraylength, 1))
    (kk : ∀ v : Int32, x_rn (kf v) σ = some z → W p l e R s m args below meth c H locs (x_N σ - x_N σ0) (x_U σ - x_U σ0) Q (F0 m (pc + 1) ls (.int v :: rest))) : W p l e R s m args below meth c H locs (x_N σ - x_N σ0) (x_U σ - x_U σ0) Q (F0 m pc ls (va_rf r :: rest)) := by
  obtain ⟨v, hv, hM'⟩ := x_okA hM
  obtain ⟨a, ha, rfl⟩ := x_map_some hv
  obtain ⟨rfl, hKa⟩ := x_dr_some ha
  obtain ⟨hx, hb, hml, hown, hts, hT⟩ := E
  by_cases h2 : kd < 2
  · exact va_alen (ws := [(a, .inl (dA kd, x_L σ a, .inl (x_A σ a)))]) (cl := vwCl) hx hb hT.1 (x_P1 (S.1.2.1 kd a h2 hKa)) 0 kd rfl (x_tys_get dA hk) rfl hdg (kk _ hM')
  · exact va_alen (ws := [(a, .inl (dA kd, x_L σ a, .inr (.inr (.inr (.inr (x_Q σ a))))))]) (cl := vwCl) hx hb hT.1 (x_P1 (S.1.2.2.1 kd a (by omega) hk hKa)) 0 kd rfl (x_tys_get dA hk) rfl hdg (kk _ hM')
theorem x_A_uA_ne {σ : PH} {a b i : Nat} {v : Int32} (h : b ≠ a) : x_A (x_uA σ a i v) b = x_A σ b := by
  funext j; simp [x_uA, x_A, x_up, h]
theorem x_A_uA {σ : PH} {a i : Nat} {v : Int32} : x_A (x_uA σ a i v) a = upd (x_A σ a) i v := by
  funext j; simp [x_uA, x_A, x_up, upd]
theorem x_Q_uQ_ne {σ : PH} {a b i : Nat} {v : Option Nat} (h : b ≠ a) : x_Q (x_uQ σ a i v) b = x_Q σ b := by
  funext j; simp [x_uQ, x_Q, x_up, h]
theorem x_Q_uQ {σ : PH} {a i : Nat} {v : Option Nat} : x_Q (x_uQ σ a i v) a = va_up (x_Q σ a) i v := by
  funext j; simp [x_uQ, x_Q, x_up, va_up]
theorem x_S.uA (S : x_S base D dA R s σ0 σE σ H locs) {a j i : Nat} {v : Int32} {H1 : Heap} {locs1 : List Loc} (hj : j < 2) (hKa : x_K σ a = j + 11) (h1 : H1[a]? = some (vp_cell (dA j) (x_L σ a, .inl (upd (x_A σ a) i v)))) (z : H1.size = H.size) (oq : ∀ q : Nat, q ≠ a → H1[q]? = H[q]?) (hS : va_S (fun q => base ≤ q) s.heap H1 locs1) : x_S base D dA R s σ0 σE (x_uA σ a i v) H1 locs1 := by
  refine ⟨S.1.chg (a := a) rfl rfl rfl z oq (fun c b hb => rfl) (fun _ hb => x_A_uA_ne hb) (fun _ _ => rfl) (fun c hc hc2 => ?_) (fun k hk hk2 => ?_) (fun k hk hk2 hk3 => ?_), hS, S.2.2⟩
  · omega
  · have : k = j := by omega
    subst this
    rw [x_A_uA]; exact h1
  · omega
theorem x_S.uQ (S : x_S base D dA R s σ0 σE σ H locs) {a j i : Nat} {v : Option Nat} {H1 : Heap} {locs1 : List Loc} (hj : 2 ≤ j ∧ j < 6) (hKa : x_K σ a = j + 11) (h1 : H1[a]? = some (vp_cell (dA j) (x_L σ a, .inr (.inr (.inr (.inr (va_up (x_Q σ a) i v))))))) (z : H1.size = H.size) (oq : ∀ q : Nat, q ≠ a → H1[q]? = H[q]?) (hS : va_S (fun q => base ≤ q) s.heap H1 locs1) : x_S base D dA R s σ0 σE (x_uQ σ a i v) H1 locs1 := by
  refine ⟨S.1.chg (a := a) rfl rfl rfl z oq (fun c b hb => rfl) (fun _ _ => rfl) (fun _ hb => x_Q_uQ_ne hb) (fun c hc hc2 => ?_) (fun k hk hk2 => ?_) (fun k hk hk2 hk3 => ?_), hS, S.2.2⟩
  · omega
  · omega
  · have : k = j := by omega
    subst this
    rw [x_Q_uQ]; exact h1
theorem w_sI (E : x_E p s m args c cc nL own D dA) (S : x_S base D dA R s σ0 σE σ H locs) {r : Option Nat} {i v : Int32} {kf : Unit → PM α} (hM : x_rn (x_bd (x_sI r i v) kf) σ = some z) (hdg : decode cc pc = .ok (.iastore, 1))
    (kk : ∀ (σ : PH) (H : Heap) (locs : List Loc), x_S base D dA R s σ0 σE σ H locs → x_rn (kf ()) σ = some z → W p l e R s m args below meth c H locs (x_N σ - x_N σ0) (x_U σ - x_U σ0) Q (F0 m (pc + 1) ls rest)) : W p l e R s m args below meth c H locs (x_N σ - x_N σ0) (x_U σ - x_U σ0) Q (F0 m pc ls (.int v :: .int i :: va_rf r :: rest)) := by
  obtain ⟨τ, hv, hM'⟩ := x_okP hM
  obtain ⟨a, ha, rfl⟩ := x_map_some hv
  obtain ⟨rfl, hKa, hi⟩ := x_ix_some ha
  obtain ⟨hx, hb, hml, hown, hts, hT⟩ := E
  have hba : base ≤ a := (S.1.2.2.2.1 a (by omega)).1
  have hty := (hT.ty (j := 0) (by omega)).1
  refine W.iast hx hb (S.1.2.1 0 a (by omega) hKa) (hty (x_L σ a) (fun j => .int (x_A σ a j))) (fun q => by cases q) (by show ¬ (i < 0 ∨ (arrV _ _ _).slots.size ≤ _); rw [arrV_size]; exact hi) rfl rfl hdg fun H1 e1 z1 oq => ?_
  refine kk (x_uA σ a i.toNatClampNeg v) H1 _ (S.uA (j := 0) (by omega) hKa ?_ z1 oq (S.2.1.put z1 oq hba)) hM'
  rw [e1, vp_cell_i, vp_cell_i, arrV_store]
  congr 2
  funext q
  by_cases hq : q = i.toNatClampNeg
  · subst hq; simp [updV, upd]
  · simp [updV, upd, hq]
theorem w_sZ (E : x_E p s m args c cc nL own D dA) (S : x_S base D dA R s σ0 σE σ H locs) {r : Option Nat} {i v : Int32} {kf : Unit → PM α} (hM : x_rn (x_bd (x_sZ r i v) kf) σ = some z) (hdg : decode cc pc = .ok (.bastore, 1))
    (kk : ∀ (σ : PH) (H : Heap) (locs : List Loc), x_S base D dA R s σ0 σE σ H locs → x_rn (kf ()) σ = some z → W p l e R s m args below meth c H locs (x_N σ - x_N σ0) (x_U σ - x_U σ0) Q (F0 m (pc + 1) ls rest)) : W p l e R s m args below meth c H locs (x_N σ - x_N σ0) (x_U σ - x_U σ0) Q (F0 m pc ls (.int v :: .int i :: va_rf r :: rest)) := by
  obtain ⟨τ, hv, hM'⟩ := x_okP hM
  split at hv
  case isFalse => cases hv
  rename_i hz
  obtain ⟨a, ha, rfl⟩ := x_map_some hv
  obtain ⟨rfl, hKa, hi⟩ := x_ix_some ha
  obtain ⟨hx, hb, hml, hown, hts, hT⟩ := E
  have hba : base ≤ a := (S.1.2.2.2.1 a (by omega)).1
  have hty := (hT.ty (j := 1) (by omega)).1
  refine W.zast hx hb (S.1.2.1 1 a (by omega) hKa) (hty (x_L σ a) (fun j => .int (x_A σ a j))) (fun q => by cases q) (by show ¬ (i < 0 ∨ (arrV _ _ _).slots.size ≤ _); rw [arrV_size]; exact hi) rfl rfl hdg fun H1 e1 z1 oq => ?_
  refine kk (x_uA σ a i.toNatClampNeg v) H1 _ (S.uA (j := 1) (by omega) hKa ?_ z1 oq (S.2.1.put z1 oq hba)) hM'
  rw [e1, vp_cell_i, vp_cell_i, arrV_store, (x_narZ hz).1]
  congr 2
  funext q
  by_cases hq : q = i.toNatClampNeg
  · subst hq; simp [updV, upd]
  · simp [updV, upd, hq]
theorem w_sQ (E : x_E p s m args c cc nL own D dA) (S : x_S base D dA R s σ0 σE σ H locs) {kd ci : Nat} {r v : Option Nat} {i : Int32} {kf : Unit → PM α} (hM : x_rn (x_bd (x_sQ kd ci r i v) kf) σ = some z) (hk : 2 ≤ kd ∧ kd < 6 ∧ ci < 10 ∧ x_nm ci = x_eC kd) (hdg : decode cc pc = .ok (.aastore, 1))
    (kk : ∀ (σ : PH) (H : Heap) (locs : List Loc), x_S base D dA R s σ0 σE σ H locs → x_rn (kf ()) σ = some z → W p l e R s m args below meth c H locs (x_N σ - x_N σ0) (x_U σ - x_U σ0) Q (F0 m (pc + 1) ls rest)) : W p l e R s m args below meth c H locs (x_N σ - x_N σ0) (x_U σ - x_U σ0) Q (F0 m pc ls (va_rf v :: .int i :: va_rf r :: rest)) := by
  obtain ⟨τ, hv, hM'⟩ := x_okP hM
  split at hv
  case isFalse => cases hv
  rename_i hz
  obtain ⟨a, ha, rfl⟩ := x_map_some hv
  obtain ⟨rfl, hKa, hi⟩ := x_ix_some ha
  obtain ⟨hx, hb, hml, hown, hts, hT⟩ := E
  have hba : base ≤ a := (S.1.2.2.2.1 a (by omega)).1
  have hty := hT.ty (j := kd) hk.2.1
  rw [x_tyA_o hk.1] at hty
  have hlt : i.toNatClampNeg < x_L σ a := Nat.not_le.mp fun q => hi (Or.inr q)
  have h0 : ¬ i < 0 := fun q => hi (Or.inl q)
  have fin : ∀ (H1 : Heap), H1[a]? = some ((vp_cell (dA kd) (x_L σ a, .inr (.inr (.inr (.inr (x_Q σ a)))))).setSlot i.toNatClampNeg (va_rf v)) → H1.size = H.size → (∀ q : Nat, q ≠ a → H1[q]? = H[q]?) → ∀ kl : Nat, x_S base D dA R s σ0 σE (x_uQ σ a i.toNatClampNeg v) H1 (locs ++ [⟨a, kl⟩]) := by
    intro H1 e1 z1 oq kl
    refine S.uQ ⟨hk.1, hk.2.1⟩ hKa ?_ z1 oq (S.2.1.put z1 oq hba)
    rw [e1, vp_cell_q, vp_cell_q, arrV_store]
    congr 2
    funext q
    by_cases hq : q = i.toNatClampNeg
    · subst hq; simp [updV, va_up]
    · simp [updV, va_up, hq]
  cases v with
  | none =>
    refine va_WaastN (C := x_eC kd) hx hb (S.1.2.2.1 kd a hk.1 hk.2.1 hKa) (hty.1 (x_L σ a) (fun j => va_rf (x_Q σ a j))) (fun h => by cases h) (by show ¬ (i < 0 ∨ (arrV _ _ _).slots.size ≤ _); rw [arrV_size]; exact hi) rfl rfl hdg fun H1 e1 z1 oq => ?_
    exact kk (x_uQ σ a i.toNatClampNeg none) H1 _ (fin H1 e1 z1 oq _) hM'
  | some b =>
    have hKb : x_K σ b = ci + 1 := by simpa [x_fit] using hz
    obtain ⟨C, T, N, hc, -⟩ := x_clA ci hk.2.2.1
    have hn : x_nm ci = C := by simp only [x_nm, hc]
    obtain ⟨r', hr', cellV, g1, g2, g3, -⟩ := S.1.1 ci b hk.2.2.1 hKb
    have hcls := (hT.1.1 ci _ hc).2
    obtain ⟨kA, comp, k1, k2, k3, -⟩ := hty.2
    have hcomp : comp = D.1 ci := Option.some.inj (k3.symm.trans (by rw [← hk.2.2.2, hn]; exact hcls.1))
    subst hcomp
    obtain ⟨kC, hkC, -⟩ := hcls.2
    refine W.aast hx hb (S.1.2.2.1 kd a hk.1 hk.2.1 hKa) (fun q h => by cases h) (fun h => by cases h) k1 k2 rfl hkC ⟨h0, by show _ < (arrV _ _ _).slots.size; rw [arrV_size]; exact hlt⟩ g1 (fun q h => by rw [g3] at h; cases h) (by rw [g2]; exact hkC) (by rw [g2]; exact va_assign hcls) rfl rfl hdg fun H1 e1 z1 oq => ?_
    exact kk (x_uQ σ a i.toNatClampNeg (some b)) H1 _ (fin H1 e1 z1 oq _) hM'
end XW
