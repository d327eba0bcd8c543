/-! locals by their kinds -/
abbrev x_tv : Type := Int32 ⊕ (Option Nat ⊕ Int64)
def x_val (t : x_tv) : Value := match t with
  | .inl x => .int x
  | .inr (.inl r) => va_rf r
  | .inr (.inr y) => .long y
def x_lng (t : x_tv) : Bool := match t with
  | .inr (.inr _) => true
  | _ => false
theorem x_lng_cat (t : x_tv) : ((x_val t).category == 2) = x_lng t := by
  rcases t with x | r | y
  · rfl
  · cases r <;> rfl
  · rfl
abbrev x_lm (lt : List (Nat × x_tv)) : List (Nat × Value) := lt.map (fun q => (q.1, x_val q.2))
def x_lv (ls : Array Slot) (nL : Nat) (lt : List (Nat × x_tv)) : Prop := lv_has ls nL (lt.map (fun q => (q.1, x_val q.2)))
theorem x_lv_at {ls : Array Slot} {nL : Nat} {lt : List (Nat × x_tv)} (h : x_lv ls nL lt) (k : Nat) {i : Nat} {t : x_tv} (hk : lt[k]? = some (i, t)) : ls[i]? = some (.val (x_val t)) := by
  refine lv_at h k ?_
  rw [List.getElem?_map, hk]
  rfl
theorem x_lv_sub {ls : Array Slot} {nL : Nat} {lt lt' : List (Nat × x_tv)} (h : x_lv ls nL lt) (ks : List Nat) (hk : ks.filterMap (fun k => lt[k]?) = lt') : x_lv ls nL lt' := by
  refine lv_sub h ks ?_
  subst hk
  unfold lv_pick
  rw [List.map_filterMap]
  congr 1
  funext k
  rw [List.getElem?_map]
def x_keep (i : Nat) (q : Nat × x_tv) : Bool := !(q.1 == i) && !(q.1 + 1 == i && x_lng q.2)
theorem x_lv_flt (lt : List (Nat × x_tv)) (i : Nat) : (lt.map (fun q => (q.1, x_val q.2))).filter (fun q => !(q.1 == i) && !(q.1 + 1 == i && q.2.category == 2)) = (lt.filter (x_keep i)).map (fun q => (q.1, x_val q.2)) := by
  rw [List.filter_map]
  congr 1
  refine List.filter_congr (fun q _ => ?_)
  simp only [Function.comp, x_keep, x_lng_cat]
def x_keep2 (i : Nat) (q : Nat × x_tv) : Bool := !(q.1 == i) && (!(q.1 == i + 1) && !(q.1 + 1 == i && x_lng q.2))
theorem x_lv_flt2 (lt : List (Nat × x_tv)) (i : Nat) : (lt.map (fun q => (q.1, x_val q.2))).filter (fun q => !(q.1 == i) && (!(q.1 == i + 1) && !(q.1 + 1 == i && q.2.category == 2))) = (lt.filter (x_keep2 i)).map (fun q => (q.1, x_val q.2)) := by
  rw [List.filter_map]
  congr 1
  refine List.filter_congr (fun q _ => ?_)
  simp only [Function.comp, x_keep2, x_lng_cat]
/-! a method's contract by its pure step -/
def x_PreB (base : Nat) (D : va_G) (dA : Nat → ClassId) (σ : PH) : State → Prop := fun U => x_Rep base D dA σ U.heap ∧ x_T D dA U
def x_Post (base : Nat) (D : va_G) (dA : Nat → ClassId) (τ : PH) (rv : Option Value) : State → Outcome → State → Prop := fun st o t => o = .returned rv ∧ x_Rep base D dA τ t.heap ∧ x_T D dA t ∧ va_F (fun q => base ≤ q) st t
def x_rm (fr lo : Nat) (σ τ : PH) : Room := { frames := fr, cells := x_N τ - x_N σ, slots := x_U τ - x_U σ, locals := lo }
def x_Met {α : Type} (l : Launch) (base : Nat) (D : va_G) (dA : Nat → ClassId) (y : MethodName) (cc : ByteArray) (maxL : Nat) (ret : Option FieldType) (fr lo : Nat) (av : List Value) (f : PM α) (rv : α → Option Value) : Prop :=
  ∀ (σ : PH) (a : α) (τ : PH), x_rn f σ = some (a, τ) → Met l y (Cond.code y cc maxL ret :: x_all) (x_rm fr lo σ τ) (va_Pc av (x_PreB base D dA σ)) (fun _ st o t => x_Post base D dA τ (rv a) st o t) (x_N τ - x_N σ) (x_U τ - x_U σ) (fun q => base ≤ q)
theorem x_blind {base : Nat} {D : va_G} {dA : Nat → ClassId} {σ : PH} {av : List Value} : FrameBlind (va_Pc av (x_PreB base D dA σ)) := by
  intro a U g mk q
  obtain ⟨q0, qR, qT⟩ := q
  exact ⟨q0, qR, x_T.moved (u := U) (U := U.calling g mk a) (Vm.Alike.refl U.vm) qT⟩
theorem x_goodIn {ws : List Cond} (h : ∀ w ∈ ws, w ∈ x_all) : GoodIn x_all ws := fun w hw => ⟨h w hw, good_of_word (List.mem_filter.mp (h w hw)).2⟩
/-- what a call of y takes from the tables -/
def x_mc (y : MethodName) (cc : ByteArray) (maxL : Nat) (ret : Option FieldType) (n : Nat) : Prop := Cond.code y cc maxL ret ∈ x_all ∧ Cond.initialized y.cls ∈ x_all ∧ (y.cls ≠ "java/lang/invoke/MethodHandle" ∧ y.cls ≠ "java/lang/invoke/VarHandle" ∧ (parseMethodDescriptor y.desc).map (fun d => d.parameters.length) = some n)
section XC
variable {p : Program} {l : Launch} {e : Env} {R : Room} {s : State} {m : MethodId} {args : Array Value} {below : List Frame} {meth : Method} {c : Code} {H : Heap} {locs : List Loc} {Q : State → Prop}
variable {cc : ByteArray} {nL : Nat} {own : String} {base : Nat} {D : va_G} {dA : Nat → ClassId} {σ0 σE σ : PH} {pc : Nat} {ls : Array Slot} {rest : List Value}
variable {α β : Type} {z : α × PH} {cells slots : Nat} {lt lt' : List (Nat × x_tv)}
theorem w_iload_n (E : x_E p s m args c cc nL own D dA) (hl : x_lv ls nL lt) {k : Fin 4} {x : Int32} (j : Nat) (hdg : decode cc pc = .ok (.iload_n k, 1)) (hj : lt[j]? = some (k.val, .inl x)) (kk : W p l e R s m args below meth c H locs cells slots Q (F0 m (pc + 1) ls (.int x :: rest))) : W p l e R s m args below meth c H locs cells slots Q (F0 m pc ls rest) := lv_iload_n E.1 E.2.1 hdg rfl (x_lv_at hl j hj) kk
theorem w_iload (E : x_E p s m args c cc nL own D dA) (hl : x_lv ls nL lt) {k : Nat} {x : Int32} (j : Nat) (hdg : decode cc pc = .ok (.iload k, 2)) (hj : lt[j]? = some (k, .inl x)) (kk : W p l e R s m args below meth c H locs cells slots Q (F0 m (pc + 2) ls (.int x :: rest))) : W p l e R s m args below meth c H locs cells slots Q (F0 m pc ls rest) := lv_iload E.1 E.2.1 hdg (x_lv_at hl j hj) kk
theorem w_lload_n (E : x_E p s m args c cc nL own D dA) (hl : x_lv ls nL lt) {k : Fin 4} {x : Int64} (j : Nat) (hdg : decode cc pc = .ok (.lload_n k, 1)) (hj : lt[j]? = some (k.val, .inr (.inr x))) (kk : W p l e R s m args below meth c H locs cells slots Q (F0 m (pc + 1) ls (.long x :: rest))) : W p l e R s m args below meth c H locs cells slots Q (F0 m pc ls rest) := lv_lload_n E.1 E.2.1 hdg rfl (x_lv_at hl j hj) kk
theorem w_lload (E : x_E p s m args c cc nL own D dA) (hl : x_lv ls nL lt) {k : Nat} {x : Int64} (j : Nat) (hdg : decode cc pc = .ok (.lload k, 2)) (hj : lt[j]? = some (k, .inr (.inr x))) (kk : W p l e R s m args below meth c H locs cells slots Q (F0 m (pc + 2) ls (.long x :: rest))) : W p l e R s m args below meth c H locs cells slots Q (F0 m pc ls rest) := lv_lload E.1 E.2.1 hdg (x_lv_at hl j hj) kk
theorem w_aload_n (E : x_E p s m args c cc nL own D dA) (hl : x_lv ls nL lt) {k : Fin 4} {r : Option Nat} (j : Nat) (hdg : decode cc pc = .ok (.aload_n k, 1)) (hj : lt[j]? = some (k.val, .inr (.inl r))) (kk : W p l e R s m args below meth c H locs cells slots Q (F0 m (pc + 1) ls (va_rf r :: rest))) : W p l e R s m args below meth c H locs cells slots Q (F0 m pc ls rest) := by
  have h := x_lv_at hl j hj
  cases r with
  | none => exact lv_aload_nN E.1 E.2.1 hdg rfl h kk
  | some a => exact lv_aload_n E.1 E.2.1 hdg rfl h kk
theorem w_aload (E : x_E p s m args c cc nL own D dA) (hl : x_lv ls nL lt) {k : Nat} {r : Option Nat} (j : Nat) (hdg : decode cc pc = .ok (.aload k, 2)) (hj : lt[j]? = some (k, .inr (.inl r))) (kk : W p l e R s m args below meth c H locs cells slots Q (F0 m (pc + 2) ls (va_rf r :: rest))) : W p l e R s m args below meth c H locs cells slots Q (F0 m pc ls rest) := by
  have h := x_lv_at hl j hj
  cases r with
  | none => exact lv_aloadN E.1 E.2.1 hdg h kk
  | some a => exact lv_aload E.1 E.2.1 hdg h kk
theorem w_istore_n (E : x_E p s m args c cc nL own D dA) (hl : x_lv ls nL lt) {k : Fin 4} {x : Int32} (hdg : decode cc pc = .ok (.istore_n k, 1)) (hn : k.val < nL) (he : (k.val, .inl x) :: lt.filter (x_keep k.val) = lt') (kk : ∀ ls : Array Slot, x_lv ls nL lt' → W p l e R s m args below meth c H locs cells slots Q (F0 m (pc + 1) ls rest)) : W p l e R s m args below meth c H locs cells slots Q (F0 m pc ls (.int x :: rest)) :=
  lv_istore_n (lv' := x_lm lt') E.1 E.2.1 hdg rfl hl hn (by rw [x_lv_flt, ← he]; rfl) kk
theorem w_istore (E : x_E p s m args c cc nL own D dA) (hl : x_lv ls nL lt) {k : Nat} {x : Int32} (hdg : decode cc pc = .ok (.istore k, 2)) (hn : k < nL) (he : (k, .inl x) :: lt.filter (x_keep k) = lt') (kk : ∀ ls : Array Slot, x_lv ls nL lt' → W p l e R s m args below meth c H locs cells slots Q (F0 m (pc + 2) ls rest)) : W p l e R s m args below meth c H locs cells slots Q (F0 m pc ls (.int x :: rest)) :=
  lv_istore (lv' := x_lm lt') E.1 E.2.1 hdg hl hn (by rw [x_lv_flt, ← he]; rfl) kk
theorem w_lstore_n (E : x_E p s m args c cc nL own D dA) (hl : x_lv ls nL lt) {k : Fin 4} {x : Int64} (hdg : decode cc pc = .ok (.lstore_n k, 1)) (hn : k.val + 1 < nL) (he : (k.val, .inr (.inr x)) :: lt.filter (x_keep2 k.val) = lt') (kk : ∀ ls : Array Slot, x_lv ls nL lt' → W p l e R s m args below meth c H locs cells slots Q (F0 m (pc + 1) ls rest)) : W p l e R s m args below meth c H locs cells slots Q (F0 m pc ls (.long x :: rest)) :=
  lv_lstore_n (lv' := x_lm lt') E.1 E.2.1 hdg rfl hl hn (by rw [x_lv_flt2, ← he]; rfl) kk
theorem w_lstore (E : x_E p s m args c cc nL own D dA) (hl : x_lv ls nL lt) {k : Nat} {x : Int64} (hdg : decode cc pc = .ok (.lstore k, 2)) (hn : k + 1 < nL) (he : (k, .inr (.inr x)) :: lt.filter (x_keep2 k) = lt') (kk : ∀ ls : Array Slot, x_lv ls nL lt' → W p l e R s m args below meth c H locs cells slots Q (F0 m (pc + 2) ls rest)) : W p l e R s m args below meth c H locs cells slots Q (F0 m pc ls (.long x :: rest)) :=
  lv_lstore (lv' := x_lm lt') E.1 E.2.1 hdg hl hn (by rw [x_lv_flt2, ← he]; rfl) kk
theorem w_astore_n (E : x_E p s m args c cc nL own D dA) (hl : x_lv ls nL lt) {k : Fin 4} {r : Option Nat} (hdg : decode cc pc = .ok (.astore_n k, 1)) (hn : k.val < nL) (he : (k.val, .inr (.inl r)) :: lt.filter (x_keep k.val) = lt') (kk : ∀ ls : Array Slot, x_lv ls nL lt' → W p l e R s m args below meth c H locs cells slots Q (F0 m (pc + 1) ls rest)) : W p l e R s m args below meth c H locs cells slots Q (F0 m pc ls (va_rf r :: rest)) := by
  cases r with
  | none => exact lv_astore_nN (lv' := x_lm lt') E.1 E.2.1 hdg rfl hl hn (by rw [x_lv_flt, ← he]; rfl) kk
  | some a => exact lv_astore_n (lv' := x_lm lt') E.1 E.2.1 hdg rfl hl hn (by rw [x_lv_flt, ← he]; rfl) kk
theorem w_astore (E : x_E p s m args c cc nL own D dA) (hl : x_lv ls nL lt) {k : Nat} {r : Option Nat} (hdg : decode cc pc = .ok (.astore k, 2)) (hn : k < nL) (he : (k, .inr (.inl r)) :: lt.filter (x_keep k) = lt') (kk : ∀ ls : Array Slot, x_lv ls nL lt' → W p l e R s m args below meth c H locs cells slots Q (F0 m (pc + 2) ls rest)) : W p l e R s m args below meth c H locs cells slots Q (F0 m pc ls (va_rf r :: rest)) := by
  cases r with
  | none => exact lv_astoreN (lv' := x_lm lt') E.1 E.2.1 hdg hl hn (by rw [x_lv_flt, ← he]; rfl) kk
  | some a => exact lv_astore (lv' := x_lm lt') E.1 E.2.1 hdg hl hn (by rw [x_lv_flt, ← he]; rfl) kk
theorem w_iinc (E : x_E p s m args c cc nL own D dA) (hl : x_lv ls nL lt) {k : Nat} {n : Int} {x v : Int32} (j : Nat) (hdg : decode cc pc = .ok (.iinc k n, 3)) (hj : lt[j]? = some (k, .inl x)) (hv : x + Int32.ofInt n = v) (hn : k < nL) (he : (k, .inl v) :: lt.filter (x_keep k) = lt') (kk : ∀ ls : Array Slot, x_lv ls nL lt' → W p l e R s m args below meth c H locs cells slots Q (F0 m (pc + 3) ls rest)) : W p l e R s m args below meth c H locs cells slots Q (F0 m pc ls rest) :=
  lv_iinc (lv' := x_lm lt') (k := j) E.1 E.2.1 hdg hl (by rw [List.getElem?_map, hj]; rfl) hv hn (by rw [x_lv_flt, ← he]; rfl) kk
/-! null -/
theorem w_ifnull (E : x_E p s m args c cc nL own D dA) {r : Option Nat} {off : Int} {tgt : Nat} {A B : PM α} (hM : x_rn (if r = none then A else B) σ = some z) (hdg : decode cc pc = .ok (.ifnull off, 3)) (ht : (pc : Int) + off = (tgt : Int)) (k1 : r = none → x_rn A σ = some z → W p l e R s m args below meth c H locs cells slots Q (F0 m tgt ls rest)) (k2 : ∀ a, r = some a → x_rn B σ = some z → W p l e R s m args below meth c H locs cells slots Q (F0 m (pc + 3) ls rest)) : W p l e R s m args below meth c H locs cells slots Q (F0 m pc ls (va_rf r :: rest)) := by
  cases r with
  | none => exact lv_ifnullN E.1 E.2.1 hdg ht (k1 rfl (x_okT hM rfl))
  | some a => exact lv_ifnull E.1 E.2.1 hdg (k2 a rfl (x_okF hM (fun h => by cases h)))
theorem w_ifnonnull (E : x_E p s m args c cc nL own D dA) {r : Option Nat} {off : Int} {tgt : Nat} {A B : PM α} (hM : x_rn (if r = none then A else B) σ = some z) (hdg : decode cc pc = .ok (.ifnonnull off, 3)) (ht : (pc : Int) + off = (tgt : Int)) (k1 : r = none → x_rn A σ = some z → W p l e R s m args below meth c H locs cells slots Q (F0 m (pc + 3) ls rest)) (k2 : ∀ a, r = some a → x_rn B σ = some z → W p l e R s m args below meth c H locs cells slots Q (F0 m tgt ls rest)) : W p l e R s m args below meth c H locs cells slots Q (F0 m pc ls (va_rf r :: rest)) := by
  cases r with
  | none => exact lv_ifnonnullN E.1 E.2.1 hdg (k1 rfl (x_okT hM rfl))
  | some a => exact lv_ifnonnull E.1 E.2.1 hdg ht (k2 a rfl (x_okF hM (fun h => by cases h)))
theorem w_null (E : x_E p s m args c cc nL own D dA) (hdg : decode cc pc = .ok (.aconst_null, 1)) (kk : W p l e R s m args below meth c H locs cells slots Q (F0 m (pc + 1) ls (va_rf none :: rest))) : W p l e R s m args below meth c H locs cells slots Q (F0 m pc ls rest) := lv_null E.1 E.2.1 hdg kk
theorem w_irem (E : x_E p s m args c cc nL own D dA) {x y : Int32} (hdg : decode cc pc = .ok (.irem, 1)) (hne : ¬ y = 0) (kk : W p l e R s m args below meth c H locs cells slots Q (F0 m (pc + 1) ls (.int (x_rem x y) :: rest))) : W p l e R s m args below meth c H locs cells slots Q (F0 m pc ls (.int y :: .int x :: rest)) := lv_irem E.1 E.2.1 hdg hne kk
theorem w_lrem (E : x_E p s m args c cc nL own D dA) {x y : Int64} (hdg : decode cc pc = .ok (.lrem, 1)) (hne : ¬ y = 0) (kk : W p l e R s m args below meth c H locs cells slots Q (F0 m (pc + 1) ls (.long (x_lrem x y) :: rest))) : W p l e R s m args below meth c H locs cells slots Q (F0 m pc ls (.long y :: .long x :: rest)) := lv_lrem E.1 E.2.1 hdg hne kk
theorem w_ldc (E : x_E p s m args c cc nL own D dA) {index : Nat} {v : Int32} (hc : Cond.constant own index v ∈ x_all) (hdg : decode cc pc = .ok (.ldc index, 2)) (kk : W p l e R s m args below meth c H locs cells slots Q (F0 m (pc + 2) ls (.int v :: rest))) : W p l e R s m args below meth c H locs cells slots Q (F0 m pc ls rest) := lv_ldc E.1 E.2.1 E.2.2.2.1 (E.2.2.2.2.1 _ hc) hdg kk
theorem w_ldc2 (E : x_E p s m args c cc nL own D dA) {index : Nat} {v : Int64} (hc : Cond.constantLong own index v ∈ x_all) (hdg : decode cc pc = .ok (.ldc2_w index, 3)) (kk : W p l e R s m args below meth c H locs cells slots Q (F0 m (pc + 3) ls (.long v :: rest))) : W p l e R s m args below meth c H locs cells slots Q (F0 m pc ls rest) := lv_ldc2 E.1 E.2.1 E.2.2.2.1 (E.2.2.2.2.1 _ hc) hdg kk
theorem w_nm {x : Int32} {kf : Int32 → PM α} (hM : x_rn (x_bd (x_pr x) kf) σ = some z) (kk : ∀ y : Int32, x_rn (kf y) σ = some z → W p l e R s m args below meth c H locs cells slots Q (F0 m pc ls (.int y :: rest))) : W p l e R s m args below meth c H locs cells slots Q (F0 m pc ls (.int x :: rest)) := kk x (x_okN hM)
theorem w_nml {x : Int64} {kf : Int64 → PM α} (hM : x_rn (x_bd (x_pr x) kf) σ = some z) (kk : ∀ y : Int64, x_rn (kf y) σ = some z → W p l e R s m args below meth c H locs cells slots Q (F0 m pc ls (.long y :: rest))) : W p l e R s m args below meth c H locs cells slots Q (F0 m pc ls (.long x :: rest)) := kk x (x_okN hM)
theorem x_szL (hl : x_lv ls nL lt) : ls.size = nL := hl.1
theorem w_mmax (E : x_E p s m args c cc nL own D dA) (S : x_S base D dA R s σ0 σE σ H locs) (hl : x_lv ls nL lt) {index : Nat} {x y : Int32} (hw : Cond.methodLink own index Lib.Math.max.name ∈ x_all ∧ Cond.static Lib.Math.max.name ∈ x_all ∧ Cond.initialized "java/lang/Math" ∈ x_all ∧ Cond.code Lib.Math.max.name Lib.Math.max.code 2 (some .int) ∈ x_all) (hR : 1 ≤ R.frames ∧ 21 ≤ R.locals) (hr : rest.length ≤ 4) (hdg : decode cc pc = .ok (.invokestatic index, 3))
    (kk : W p l e R s m args below meth c H locs (x_N σ - x_N σ0) (x_U σ - x_U σ0) Q (F0 m (pc + 3) ls (.int (x_max x y) :: rest))) : W p l e R s m args below meth c H locs (x_N σ - x_N σ0) (x_U σ - x_U σ0) Q (F0 m pc ls (.int y :: .int x :: rest)) := by
  obtain ⟨hx, hb, hml, hown, hts, hT⟩ := E
  obtain ⟨S1, S2, S3, S4, S5, S6, S7⟩ := S
  have := x_roomL rest hr
  exact va_mmax hx hb (by rw [hml, x_szL hl]) hown (hts _ hw.1) (hts _ hw.2.1) (hts _ hw.2.2.1) (hts _ hw.2.2.2) hR.1 (by omega) (by omega) (by omega) hdg kk
theorem w_mmin (E : x_E p s m args c cc nL own D dA) (S : x_S base D dA R s σ0 σE σ H locs) (hl : x_lv ls nL lt) {index : Nat} {x y : Int32} (hw : Cond.methodLink own index Lib.Math.min.name ∈ x_all ∧ Cond.static Lib.Math.min.name ∈ x_all ∧ Cond.initialized "java/lang/Math" ∈ x_all ∧ Cond.code Lib.Math.min.name Lib.Math.min.code 2 (some .int) ∈ x_all) (hR : 1 ≤ R.frames ∧ 21 ≤ R.locals) (hr : rest.length ≤ 4) (hdg : decode cc pc = .ok (.invokestatic index, 3))
    (kk : W p l e R s m args below meth c H locs (x_N σ - x_N σ0) (x_U σ - x_U σ0) Q (F0 m (pc + 3) ls (.int (x_min x y) :: rest))) : W p l e R s m args below meth c H locs (x_N σ - x_N σ0) (x_U σ - x_U σ0) Q (F0 m pc ls (.int y :: .int x :: rest)) := by
  obtain ⟨hx, hb, hml, hown, hts, hT⟩ := E
  obtain ⟨S1, S2, S3, S4, S5, S6, S7⟩ := S
  have := x_roomL rest hr
  exact va_mmin hx hb (by rw [hml, x_szL hl]) hown (hts _ hw.1) (hts _ hw.2.1) (hts _ hw.2.2.1) (hts _ hw.2.2.2) hR.1 (by omega) (by omega) (by omega) hdg kk
theorem w_obj (E : x_E p s m args c cc nL own D dA) (hl : x_lv ls nL lt) {idx : Nat} {r : Nat} (hw : Cond.methodLink own idx Lib.objectInit ∈ x_all ∧ Cond.instanceMethod Lib.objectInit ∈ x_all ∧ Cond.code Lib.objectInit ⟨#[0xb1]⟩ 1 none ∈ x_all) (hR : 1 ≤ R.frames ∧ 20 ≤ R.locals) (hr : rest.length ≤ 4) (hdg : decode cc pc = .ok (.invokespecial idx, 3))
    (kk : W p l e R s m args below meth c H locs cells slots Q (F0 m (pc + 3) ls rest)) : W p l e R s m args below meth c H locs cells slots Q (F0 m pc ls (va_rf (some r) :: rest)) := by
  obtain ⟨hx, hb, hml, hown, hts, hT⟩ := E
  have := x_roomL rest hr
  exact W.objInit hx hb hown (hts _ hw.1) (hts _ hw.2.1) (hts _ hw.2.2) rfl (by rw [hml]; exact hl.1) rfl hdg hR.1 (by show 2 * 0 + _ + 12 ≤ _; omega) kk
/-! calls -/
theorem w_run {τ : PH} {rv : Option Value} {st0 : List Value} (S : x_S base D dA R s σ0 σE σ H locs) (h1 : x_N σ ≤ x_N τ ∧ x_U σ ≤ x_U τ) (h2 : x_N τ ≤ x_N σE ∧ x_U τ ≤ x_U σE) (hr : va_Run p l e R s m args below meth c H locs (x_N σ - x_N σ0) (x_U σ - x_U σ0) (x_N τ - x_N σ) (x_U τ - x_U σ) (F0 m pc ls st0) rest (x_Post base D dA τ rv) (fun q => base ≤ q))
    (kk : ∀ (H : Heap) (locs : List Loc), x_S base D dA R s σ0 σE τ H locs → W p l e R s m args below meth c H locs (x_N τ - x_N σ0) (x_U τ - x_U σ0) Q (F0 m (pc + 3) ls (rv.toList ++ rest))) : W p l e R s m args below meth c H locs (x_N σ - x_N σ0) (x_U σ - x_U σ0) Q (F0 m pc ls st0) := by
  obtain ⟨S1, hS, S3, S4, S5, S6, S7⟩ := S
  intro T hT X
  obtain ⟨v, st₀, t, T', L, h0, X', hL, e1, e2, ⟨hv, hrep, hTt, hz, hk⟩, st⟩ := hr T hT X
  cases hv
  rw [h0] at hz hk
  have hrep' : x_Rep base D dA τ T'.heap := by rw [e1]; exact hrep
  obtain ⟨t2, a1, b1⟩ := W.widen (k := x_N τ - x_N σ0) (n := x_U τ - x_U σ0) (by omega) (by omega) (kk T'.heap (locs ++ L) ⟨hrep', ⟨Nat.le_trans hS.1 (by rw [e1]; exact hz), fun q h1 h2 => by rw [e1, hk q (Nat.lt_of_lt_of_le h1 hS.1) h2]; exact hS.2.1 q h1 h2, fun q hq => by
      rcases List.mem_append.mp hq with h | h
      · exact hS.2.2 q h
      · exact hL q h⟩, S3, by omega, h2, S6, S7⟩) T' rfl X'
  exact ⟨t2, st t2 a1, b1⟩
theorem w_cV (E : x_E p s m args c cc nL own D dA) (S : x_S base D dA R s σ0 z.2 σ H locs) (hl : x_lv ls nL lt) {r : Option Nat} {ci index n maxL fr lo : Nat} {y : MethodName} {cy : ByteArray} {ret : Option FieldType} {As : List Value} {f : PM β} {rv : β → Option Value} {kf : β → PM α} (hM : x_rn (x_bd (x_cV r ci f) kf) σ = some z) (hmet : x_Met l base D dA y cy maxL ret fr lo (va_rf r :: As) f rv) (hy : x_mc y cy maxL ret n) (hw : ci < 10 ∧ y.cls = x_nm ci ∧ Cond.methodLink own index y ∈ x_all ∧ Cond.instanceMethod y ∈ x_all ∧ Cond.selects y.cls y y ∈ x_all) (hR : fr + 1 ≤ R.frames ∧ 8 + (maxL + 11) + lo ≤ R.locals) (hn : As.length = n) (hr : rest.length ≤ 4) (hdg : decode cc pc = .ok (.invokevirtual index, 3)) {st0 : List Value} (hst : st0 = As.reverse ++ va_rf r :: rest)
    (kk : ∀ (b : β) (σ : PH) (H : Heap) (locs : List Loc), x_S base D dA R s σ0 z.2 σ H locs → x_rn (kf b) σ = some z → W p l e R s m args below meth c H locs (x_N σ - x_N σ0) (x_U σ - x_U σ0) Q (F0 m (pc + 3) ls ((rv b).toList ++ rest))) : W p l e R s m args below meth c H locs (x_N σ - x_N σ0) (x_U σ - x_U σ0) Q (F0 m pc ls st0) := by
  subst hst
  obtain ⟨b, τ, h1, h2⟩ := x_okB hM
  obtain ⟨u, hu, h3⟩ := x_okA (show x_rn (x_bd (x_ask _) _) σ = _ from h1)
  obtain ⟨a, ha, -⟩ := x_map_some hu
  obtain ⟨rfl, hKa⟩ := x_dr_some ha
  have hmo := x_okM h3
  have hmo2 := x_okM h2
  dsimp only at hmo
  obtain ⟨hx, hb, hml, hown, hts, hT⟩ := E
  obtain ⟨C, T, N, hc, -⟩ := x_clA ci hw.1
  have hnm : x_nm ci = C := by simp only [x_nm, hc]
  have hcw : CallB R s args own index y cy maxL ret (Cond.code y cy maxL ret :: x_all) (x_rm fr lo σ τ) (x_N τ - x_N σ) (x_U τ - x_U σ) n :=
    callB_of n hts (x_goodIn (fun w h => by
      rcases List.mem_cons.mp h with rfl | h
      · exact hy.1
      · exact h)) rfl rfl rfl (hts _ hy.2.1) (hts _ hw.2.2.1) hy.2.2 hR
  obtain ⟨S1, S2, S3, S4, S5, S6, S7⟩ := id S
  refine w_run S hmo hmo2 (va_runV (C := y.cls) (As := As) (rest := rest) ⟨hx, hb, hml, hown, hts⟩ (hmet σ b τ h3) ⟨hcw, hts _ hw.2.2.2.1, hts _ hw.2.2.2.2⟩ ⟨x_blind, ?_, fun U hU hW => ⟨rfl, by rw [hU]; exact S1, x_T.moved hW.alike hT⟩⟩ rfl hn hl.1 rfl (lv_room (x_roomL rest hr)) hdg ⟨by omega, by omega⟩) (fun H locs S => kk b τ H locs S h2)
  rw [hw.2.1]
  obtain ⟨cell, g1, g2, g3⟩ := va_recv (q0 := 0) (a := a) hT.1 (x_P1 (S1.1 ci a hw.1 hKa)) hc rfl
  exact ⟨cell, g1, g2, by rw [hnm]; exact g3⟩
theorem w_cS (E : x_E p s m args c cc nL own D dA) (S : x_S base D dA R s σ0 z.2 σ H locs) (hl : x_lv ls nL lt) {index n maxL fr lo : Nat} {y : MethodName} {cy : ByteArray} {ret : Option FieldType} {As : List Value} {f : PM β} {rv : β → Option Value} {kf : β → PM α} (hM : x_rn (x_bd f kf) σ = some z) (hmet : x_Met l base D dA y cy maxL ret fr lo As f rv) (hy : x_mc y cy maxL ret n) (hw : Cond.methodLink own index y ∈ x_all ∧ Cond.static y ∈ x_all) (hR : fr + 1 ≤ R.frames ∧ 8 + (maxL + 11) + lo ≤ R.locals) (hn : As.length = n) (hr : rest.length ≤ 4) (hdg : decode cc pc = .ok (.invokestatic index, 3)) {st0 : List Value} (hst : st0 = As.reverse ++ rest)
    (kk : ∀ (b : β) (σ : PH) (H : Heap) (locs : List Loc), x_S base D dA R s σ0 z.2 σ H locs → x_rn (kf b) σ = some z → W p l e R s m args below meth c H locs (x_N σ - x_N σ0) (x_U σ - x_U σ0) Q (F0 m (pc + 3) ls ((rv b).toList ++ rest))) : W p l e R s m args below meth c H locs (x_N σ - x_N σ0) (x_U σ - x_U σ0) Q (F0 m pc ls st0) := by
  subst hst
  obtain ⟨b, τ, h3, h2⟩ := x_okB hM
  have hmo := x_okM h3
  have hmo2 := x_okM h2
  dsimp only at hmo
  obtain ⟨hx, hb, hml, hown, hts, hT⟩ := E
  have hcw : CallB R s args own index y cy maxL ret (Cond.code y cy maxL ret :: x_all) (x_rm fr lo σ τ) (x_N τ - x_N σ) (x_U τ - x_U σ) n :=
    callB_of n hts (x_goodIn (fun w h => by
      rcases List.mem_cons.mp h with rfl | h
      · exact hy.1
      · exact h)) rfl rfl rfl (hts _ hy.2.1) (hts _ hw.1) hy.2.2 hR
  obtain ⟨S1, S2, S3, S4, S5, S6, S7⟩ := id S
  exact w_run S hmo hmo2 (va_runS (As := As) (rest := rest) ⟨hx, hb, hml, hown, hts⟩ (hmet σ b τ h3) ⟨hcw, hts _ hw.2⟩ ⟨x_blind, fun U hU hW => ⟨rfl, by rw [hU]; exact S1, x_T.moved hW.alike hT⟩⟩ rfl hn hl.1 rfl (lv_room (x_roomL rest hr)) hdg ⟨by omega, by omega⟩) (fun H locs S => kk b τ H locs S h2)
theorem w_cI (E : x_E p s m args c cc nL own D dA) (S : x_S base D dA R s σ0 z.2 σ H locs) (hl : x_lv ls nL lt) {a index n maxL fr lo : Nat} {y : MethodName} {cy : ByteArray} {As : List Value} {f : PM Unit} {kf : Unit → PM α} (hM : x_rn (x_bd f kf) σ = some z) (hmet : x_Met l base D dA y cy maxL none fr lo (va_rf (some a) :: As) f (fun _ => none)) (hy : x_mc y cy maxL none n) (hw : Cond.methodLink own index y ∈ x_all ∧ Cond.instanceMethod y ∈ x_all ∧ y.name = "<init>") (hR : fr + 1 ≤ R.frames ∧ 8 + (maxL + 11) + lo ≤ R.locals) (hn : As.length = n) (hr : rest.length ≤ 4) (hdg : decode cc pc = .ok (.invokespecial index, 3)) {st0 : List Value} (hst : st0 = As.reverse ++ va_rf (some a) :: rest)
    (kk : ∀ (σ : PH) (H : Heap) (locs : List Loc), x_S base D dA R s σ0 z.2 σ H locs → x_rn (kf ()) σ = some z → W p l e R s m args below meth c H locs (x_N σ - x_N σ0) (x_U σ - x_U σ0) Q (F0 m (pc + 3) ls rest)) : W p l e R s m args below meth c H locs (x_N σ - x_N σ0) (x_U σ - x_U σ0) Q (F0 m pc ls st0) := by
  subst hst
  obtain ⟨b, τ, h3, h2⟩ := x_okB hM
  have hmo := x_okM h3
  have hmo2 := x_okM h2
  dsimp only at hmo
  obtain ⟨hx, hb, hml, hown, hts, hT⟩ := E
  have hcw : CallB R s args own index y cy maxL none (Cond.code y cy maxL none :: x_all) (x_rm fr lo σ τ) (x_N τ - x_N σ) (x_U τ - x_U σ) n :=
    callB_of n hts (x_goodIn (fun w h => by
      rcases List.mem_cons.mp h with rfl | h
      · exact hy.1
      · exact h)) rfl rfl rfl (hts _ hy.2.1) (hts _ hw.1) hy.2.2 hR
  obtain ⟨S1, S2, S3, S4, S5, S6, S7⟩ := id S
  exact w_run S hmo hmo2 (va_runI (As := As) (rest := rest) ⟨hx, hb, hml, hown, hts⟩ (hmet σ b τ h3) ⟨hcw, hw.2.2, hts _ hw.2.1⟩ ⟨x_blind, fun U hU hW => ⟨rfl, by rw [hU]; exact S1, x_T.moved hW.alike hT⟩⟩ rfl hn hl.1 rfl (lv_room (x_roomL rest hr)) hdg ⟨by omega, by omega⟩) (fun H locs S => kk τ H locs S h2)
/-! ends -/
def x_end (below : List Frame) (args : Array Value) (s : State) (base : Nat) (D : va_G) (dA : Nat → ClassId) (rv : α → Option Value) (σ0 : PH) (z : α × PH) : State → Prop := MQ below (fun _ st o t => x_Post base D dA z.2 (rv z.1) st o t) args s (x_N z.2 - x_N σ0) (x_U z.2 - x_U σ0) (fun q => base ≤ q)
theorem w_iret {z : Int32 × PH} {v : Int32} (E : x_E p s m args c cc nL own D dA) (S : x_S base D dA R s σ0 z.2 σ H locs) (hM : x_rn (x_pr v) σ = some z) (hr : meth.sig.returnType = some .int) (hlocks : meth.locks = false) (hdg : decode cc pc = .ok (.ireturn, 1)) : W p l e R s m args below meth c H locs (x_N σ - x_N σ0) (x_U σ - x_U σ0) (x_end below args s base D dA (fun x => some (.int x)) σ0 z) (F0 m pc ls [.int v]) := by
  obtain rfl := x_okR hM
  exact W.iret E.1 E.2.1 hr (fun t ht hW => ⟨rfl, by rw [ht]; exact S.1, x_T.moved hW.alike E.2.2.2.2.2, S.2.1.F ht⟩) S.2.1.2.2 hdg hlocks
theorem w_zret {z : Int32 × PH} {v : Int32} (E : x_E p s m args c cc nL own D dA) (S : x_S base D dA R s σ0 z.2 σ H locs) (hM : x_rn (if v = 0 ∨ v = 1 then x_pr v else x_fl) σ = some z) (hr : meth.sig.returnType = some .boolean) (hlocks : meth.locks = false) (hdg : decode cc pc = .ok (.ireturn, 1)) : W p l e R s m args below meth c H locs (x_N σ - x_N σ0) (x_U σ - x_U σ0) (x_end below args s base D dA (fun x => some (.int x)) σ0 z) (F0 m pc ls [.int v]) := by
  by_cases hv : v = 0 ∨ v = 1
  · obtain rfl := x_okR (x_okT hM hv)
    exact W.zret E.1 E.2.1 hr (x_narZ hv).1 (fun t ht hW => ⟨rfl, by rw [ht]; exact S.1, x_T.moved hW.alike E.2.2.2.2.2, S.2.1.F ht⟩) S.2.1.2.2 hdg hlocks
  · cases x_okF hM hv
theorem w_vret {z : Unit × PH} (E : x_E p s m args c cc nL own D dA) (S : x_S base D dA R s σ0 z.2 σ H locs) (hM : x_rn (x_pr ()) σ = some z) (hr : meth.sig.returnType = none) (hlocks : meth.locks = false) (hdg : decode cc pc = .ok (.return_, 1)) : W p l e R s m args below meth c H locs (x_N σ - x_N σ0) (x_U σ - x_U σ0) (x_end below args s base D dA (fun _ => none) σ0 z) (F0 m pc ls []) := by
  obtain rfl := x_okR hM
  exact W.vret E.1 E.2.1 hr (fun t ht hW => ⟨rfl, by rw [ht]; exact S.1, x_T.moved hW.alike E.2.2.2.2.2, S.2.1.F ht⟩) S.2.1.2.2 hdg hlocks
theorem w_aret {z : Option Nat × PH} {v : Option Nat} {C : String} (E : x_E p s m args c cc nL own D dA) (S : x_S base D dA R s σ0 z.2 σ H locs) (hM : x_rn (x_pr v) σ = some z) (hr : meth.sig.returnType = some (.object C)) (hlocks : meth.locks = false) (hdg : decode cc pc = .ok (.areturn, 1)) : W p l e R s m args below meth c H locs (x_N σ - x_N σ0) (x_U σ - x_U σ0) (x_end below args s base D dA (fun x => some (va_rf x)) σ0 z) (F0 m pc ls [va_rf v]) := by
  obtain rfl := x_okR hM
  exact W.aret E.1 E.2.1 hr (Or.inl ⟨C, rfl⟩) (va_rf_or v) (fun t ht hW => ⟨rfl, by rw [ht]; exact S.1, x_T.moved hW.alike E.2.2.2.2.2, S.2.1.F ht⟩) S.2.1.2.2 hdg hlocks
theorem w_cVi (E : x_E p s m args c cc nL own D dA) (S : x_S base D dA R s σ0 z.2 σ H locs) (hl : x_lv ls nL lt) {r : Option Nat} {ci index n maxL fr lo frR loR : Nat} {y : MethodName} {cy : ByteArray} {ret : Option FieldType} {As : List Value} {f : PM (Int32)} {kf : Int32 → PM α} (hM : x_rn (x_bd (x_cV r ci f) kf) σ = some z) (hmet : x_Met l base D dA y cy maxL ret fr lo (va_rf r :: As) f (fun x : Int32 => some (Value.int x))) (hy : x_mc y cy maxL ret n) (hw : ci < 10 ∧ y.cls = x_nm ci ∧ Cond.methodLink own index y ∈ x_all ∧ Cond.instanceMethod y ∈ x_all ∧ Cond.selects y.cls y y ∈ x_all) (hF : R.frames = frR) (hL : R.locals = loR) (hR : fr + 1 ≤ frR ∧ 8 + (maxL + 11) + lo ≤ loR) (hn : As.length = n) (hr : rest.length ≤ 4) (hdg : decode cc pc = .ok (.invokevirtual index, 3)) {st0 : List Value} (hst : st0 = As.reverse ++ va_rf r :: rest)
    (kk : ∀ (b : Int32) (σ : PH) (H : Heap) (locs : List Loc), x_S base D dA R s σ0 z.2 σ H locs → x_rn (kf b) σ = some z → W p l e R s m args below meth c H locs (x_N σ - x_N σ0) (x_U σ - x_U σ0) Q (F0 m (pc + 3) ls (.int b :: rest))) : W p l e R s m args below meth c H locs (x_N σ - x_N σ0) (x_U σ - x_U σ0) Q (F0 m pc ls st0) :=
  w_cV E S hl hM hmet hy hw (by rw [hF, hL]; exact hR) hn hr hdg hst (fun b σ H locs S hM => kk b σ H locs S hM)
theorem w_cSi (E : x_E p s m args c cc nL own D dA) (S : x_S base D dA R s σ0 z.2 σ H locs) (hl : x_lv ls nL lt) {index n maxL fr lo frR loR : Nat} {y : MethodName} {cy : ByteArray} {ret : Option FieldType} {As : List Value} {f : PM (Int32)} {kf : Int32 → PM α} (hM : x_rn (x_bd f kf) σ = some z) (hmet : x_Met l base D dA y cy maxL ret fr lo As f (fun x : Int32 => some (Value.int x))) (hy : x_mc y cy maxL ret n) (hw : Cond.methodLink own index y ∈ x_all ∧ Cond.static y ∈ x_all) (hF : R.frames = frR) (hL : R.locals = loR) (hR : fr + 1 ≤ frR ∧ 8 + (maxL + 11) + lo ≤ loR) (hn : As.length = n) (hr : rest.length ≤ 4) (hdg : decode cc pc = .ok (.invokestatic index, 3)) {st0 : List Value} (hst : st0 = As.reverse ++ rest)
    (kk : ∀ (b : Int32) (σ : PH) (H : Heap) (locs : List Loc), x_S base D dA R s σ0 z.2 σ H locs → x_rn (kf b) σ = some z → W p l e R s m args below meth c H locs (x_N σ - x_N σ0) (x_U σ - x_U σ0) Q (F0 m (pc + 3) ls (.int b :: rest))) : W p l e R s m args below meth c H locs (x_N σ - x_N σ0) (x_U σ - x_U σ0) Q (F0 m pc ls st0) :=
  w_cS E S hl hM hmet hy hw (by rw [hF, hL]; exact hR) hn hr hdg hst (fun b σ H locs S hM => kk b σ H locs S hM)
theorem w_cVq (E : x_E p s m args c cc nL own D dA) (S : x_S base D dA R s σ0 z.2 σ H locs) (hl : x_lv ls nL lt) {r : Option Nat} {ci index n maxL fr lo frR loR : Nat} {y : MethodName} {cy : ByteArray} {ret : Option FieldType} {As : List Value} {f : PM (Option Nat)} {kf : Option Nat → PM α} (hM : x_rn (x_bd (x_cV r ci f) kf) σ = some z) (hmet : x_Met l base D dA y cy maxL ret fr lo (va_rf r :: As) f (fun x : Option Nat => some (va_rf x))) (hy : x_mc y cy maxL ret n) (hw : ci < 10 ∧ y.cls = x_nm ci ∧ Cond.methodLink own index y ∈ x_all ∧ Cond.instanceMethod y ∈ x_all ∧ Cond.selects y.cls y y ∈ x_all) (hF : R.frames = frR) (hL : R.locals = loR) (hR : fr + 1 ≤ frR ∧ 8 + (maxL + 11) + lo ≤ loR) (hn : As.length = n) (hr : rest.length ≤ 4) (hdg : decode cc pc = .ok (.invokevirtual index, 3)) {st0 : List Value} (hst : st0 = As.reverse ++ va_rf r :: rest)
    (kk : ∀ (b : Option Nat) (σ : PH) (H : Heap) (locs : List Loc), x_S base D dA R s σ0 z.2 σ H locs → x_rn (kf b) σ = some z → W p l e R s m args below meth c H locs (x_N σ - x_N σ0) (x_U σ - x_U σ0) Q (F0 m (pc + 3) ls (va_rf b :: rest))) : W p l e R s m args below meth c H locs (x_N σ - x_N σ0) (x_U σ - x_U σ0) Q (F0 m pc ls st0) :=
  w_cV E S hl hM hmet hy hw (by rw [hF, hL]; exact hR) hn hr hdg hst (fun b σ H locs S hM => kk b σ H locs S hM)
theorem w_cSq (E : x_E p s m args c cc nL own D dA) (S : x_S base D dA R s σ0 z.2 σ H locs) (hl : x_lv ls nL lt) {index n maxL fr lo frR loR : Nat} {y : MethodName} {cy : ByteArray} {ret : Option FieldType} {As : List Value} {f : PM (Option Nat)} {kf : Option Nat → PM α} (hM : x_rn (x_bd f kf) σ = some z) (hmet : x_Met l base D dA y cy maxL ret fr lo As f (fun x : Option Nat => some (va_rf x))) (hy : x_mc y cy maxL ret n) (hw : Cond.methodLink own index y ∈ x_all ∧ Cond.static y ∈ x_all) (hF : R.frames = frR) (hL : R.locals = loR) (hR : fr + 1 ≤ frR ∧ 8 + (maxL + 11) + lo ≤ loR) (hn : As.length = n) (hr : rest.length ≤ 4) (hdg : decode cc pc = .ok (.invokestatic index, 3)) {st0 : List Value} (hst : st0 = As.reverse ++ rest)
    (kk : ∀ (b : Option Nat) (σ : PH) (H : Heap) (locs : List Loc), x_S base D dA R s σ0 z.2 σ H locs → x_rn (kf b) σ = some z → W p l e R s m args below meth c H locs (x_N σ - x_N σ0) (x_U σ - x_U σ0) Q (F0 m (pc + 3) ls (va_rf b :: rest))) : W p l e R s m args below meth c H locs (x_N σ - x_N σ0) (x_U σ - x_U σ0) Q (F0 m pc ls st0) :=
  w_cS E S hl hM hmet hy hw (by rw [hF, hL]; exact hR) hn hr hdg hst (fun b σ H locs S hM => kk b σ H locs S hM)
theorem w_cVv (E : x_E p s m args c cc nL own D dA) (S : x_S base D dA R s σ0 z.2 σ H locs) (hl : x_lv ls nL lt) {r : Option Nat} {ci index n maxL fr lo frR loR : Nat} {y : MethodName} {cy : ByteArray} {ret : Option FieldType} {As : List Value} {f : PM (Unit)} {kf : Unit → PM α} (hM : x_rn (x_bd (x_cV r ci f) kf) σ = some z) (hmet : x_Met l base D dA y cy maxL ret fr lo (va_rf r :: As) f (fun _ : Unit => none)) (hy : x_mc y cy maxL ret n) (hw : ci < 10 ∧ y.cls = x_nm ci ∧ Cond.methodLink own index y ∈ x_all ∧ Cond.instanceMethod y ∈ x_all ∧ Cond.selects y.cls y y ∈ x_all) (hF : R.frames = frR) (hL : R.locals = loR) (hR : fr + 1 ≤ frR ∧ 8 + (maxL + 11) + lo ≤ loR) (hn : As.length = n) (hr : rest.length ≤ 4) (hdg : decode cc pc = .ok (.invokevirtual index, 3)) {st0 : List Value} (hst : st0 = As.reverse ++ va_rf r :: rest)
    (kk : ∀ (σ : PH) (H : Heap) (locs : List Loc), x_S base D dA R s σ0 z.2 σ H locs → x_rn (kf ()) σ = some z → W p l e R s m args below meth c H locs (x_N σ - x_N σ0) (x_U σ - x_U σ0) Q (F0 m (pc + 3) ls (rest))) : W p l e R s m args below meth c H locs (x_N σ - x_N σ0) (x_U σ - x_U σ0) Q (F0 m pc ls st0) :=
  w_cV E S hl hM hmet hy hw (by rw [hF, hL]; exact hR) hn hr hdg hst (fun _ σ H locs S hM => kk σ H locs S hM)
theorem w_cSv (E : x_E p s m args c cc nL own D dA) (S : x_S base D dA R s σ0 z.2 σ H locs) (hl : x_lv ls nL lt) {index n maxL fr lo frR loR : Nat} {y : MethodName} {cy : ByteArray} {ret : Option FieldType} {As : List Value} {f : PM (Unit)} {kf : Unit → PM α} (hM : x_rn (x_bd f kf) σ = some z) (hmet : x_Met l base D dA y cy maxL ret fr lo As f (fun _ : Unit => none)) (hy : x_mc y cy maxL ret n) (hw : Cond.methodLink own index y ∈ x_all ∧ Cond.static y ∈ x_all) (hF : R.frames = frR) (hL : R.locals = loR) (hR : fr + 1 ≤ frR ∧ 8 + (maxL + 11) + lo ≤ loR) (hn : As.length = n) (hr : rest.length ≤ 4) (hdg : decode cc pc = .ok (.invokestatic index, 3)) {st0 : List Value} (hst : st0 = As.reverse ++ rest)
    (kk : ∀ (σ : PH) (H : Heap) (locs : List Loc), x_S base D dA R s σ0 z.2 σ H locs → x_rn (kf ()) σ = some z → W p l e R s m args below meth c H locs (x_N σ - x_N σ0) (x_U σ - x_U σ0) Q (F0 m (pc + 3) ls (rest))) : W p l e R s m args below meth c H locs (x_N σ - x_N σ0) (x_U σ - x_U σ0) Q (F0 m pc ls st0) :=
  w_cS E S hl hM hmet hy hw (by rw [hF, hL]; exact hR) hn hr hdg hst (fun _ σ H locs S hM => kk σ H locs S hM)
theorem w_zretc {z : Int32 × PH} {v : Int32} (E : x_E p s m args c cc nL own D dA) (S : x_S base D dA R s σ0 z.2 σ H locs) (hM : x_rn (x_pr v) σ = some z) (hv : v = 0 ∨ v = 1) (hr : meth.sig.returnType = some .boolean) (hlocks : meth.locks = false) (hdg : decode cc pc = .ok (.ireturn, 1)) : W p l e R s m args below meth c H locs (x_N σ - x_N σ0) (x_U σ - x_U σ0) (x_end below args s base D dA (fun x => some (.int x)) σ0 z) (F0 m pc ls [.int v]) := by
  obtain rfl := x_okR hM
  exact W.zret E.1 E.2.1 hr (x_narZ hv).1 (fun t ht hW => ⟨rfl, by rw [ht]; exact S.1, x_T.moved hW.alike E.2.2.2.2.2, S.2.1.F ht⟩) S.2.1.2.2 hdg hlocks
theorem w_iincN (E : x_E p s m args c cc nL own D dA) (hl : x_lv ls nL lt) {k : Nat} {n : Int} {x cn : Int32} {ltf : Int32 → List (Nat × x_tv)} {kf : Int32 → PM α} (j : Nat) (hM : x_rn (x_bd (x_pr (x + cn)) kf) σ = some z) (hdg : decode cc pc = .ok (.iinc k n, 3)) (hj : lt[j]? = some (k, .inl x)) (hv : Int32.ofInt n = cn) (hn : k < nL) (he : ∀ v : Int32, (k, .inl v) :: lt.filter (x_keep k) = ltf v) (kk : ∀ (v : Int32) (ls : Array Slot), x_rn (kf v) σ = some z → x_lv ls nL (ltf v) → W p l e R s m args below meth c H locs cells slots Q (F0 m (pc + 3) ls rest)) : W p l e R s m args below meth c H locs cells slots Q (F0 m pc ls rest) :=
  w_iinc E hl j hdg hj (by rw [hv]) hn (he (x + cn)) (fun ls hl => kk (x + cn) ls (x_okN hM) hl)
end XC
def x_num : Nat → List Value → List (Nat × Value)
  | _, [] => []
  | i, v :: vs => (i, v) :: x_num (i + 1) vs
theorem x_num_args : ∀ (vs : List Value) (i : Nat), (∀ v ∈ vs, v.category = 1) → lv_args i vs = x_num i vs ∧ (lg_sl vs).length = vs.length
  | [], _, _ => ⟨rfl, rfl⟩
  | v :: vs, i, h => by
    have hv : v.category = 1 := h v List.mem_cons_self
    have hne : ¬ v.category = 2 := by omega
    obtain ⟨h1, h2⟩ := x_num_args vs (i + 1) (fun w hw => h w (List.mem_cons_of_mem _ hw))
    refine ⟨?_, ?_⟩
    · simp only [lv_args, x_num, if_neg hne, h1]
    · simp only [lg_sl, List.flatMap_cons, if_neg hne, List.length_append, List.length_cons, List.length_nil]
      have : (List.flatMap (fun v => if v.category = 2 then [Slot.val v, Slot.second] else [Slot.val v]) vs).length = vs.length := h2
      omega
theorem x_num_snd : ∀ (vs : List Value) (i : Nat), (x_num i vs).map Prod.snd = vs
  | [], _ => rfl
  | v :: vs, i => by simp [x_num, x_num_snd vs (i + 1)]
theorem x_cat1 {lt : List (Nat × x_tv)} {av : List Value} (hlt : x_num 0 av = x_lm lt) (hng : lt.all (fun q => !(x_lng q.2)) = true) : ∀ v ∈ av, v.category = 1 := by
  intro v hv
  rw [← x_num_snd av 0, hlt] at hv
  obtain ⟨q, hq, rfl⟩ := List.mem_map.mp hv
  obtain ⟨q', hq', rfl⟩ := List.mem_map.mp hq
  have h := List.all_eq_true.mp hng q' hq'
  have h2 := x_lng_cat q'.2
  have h3 := lv_cat (x_val q'.2)
  rcases h3 with h3 | h3
  · exact h3
  · rw [h3] at h2
    rw [← h2] at h
    simp at h
/-- a contract out of a walk of its body -/
theorem x_Met.of {α : Type} {l : Launch} {base : Nat} {D : va_G} {dA : Nat → ClassId} {y : MethodName} {cc : ByteArray} {maxL : Nat} {ret : Option FieldType} {fr lo : Nat} {av : List Value} {f : PM α} {rv : α → Option Value} (lt : List (Nat × x_tv)) (hy : plainName y.cls = true) (hlen : av.length ≤ maxL) (hlt : x_num 0 av = x_lm lt) (hng : lt.all (fun q => !(x_lng q.2)) = true)
    (body : ∀ (p : Program) (e : Env) (R : Room) (s : State) (m : MethodId) (args : Array Value) (below : List Frame) (meth : Method) (c : Code) (σ : PH) (a : α) (τ : PH) (ls : Array Slot), R.frames = fr → R.locals = lo → x_E p s m args c cc maxL y.cls D dA → meth.sig.returnType = ret → meth.locks = false → meth.name = y.name → x_S base D dA R s σ τ σ s.heap [] → x_rn f σ = some (a, τ) → x_lv ls maxL lt → W p l e R s m args below meth c s.heap [] (x_N σ - x_N σ) (x_U σ - x_U σ) (x_end below args s base D dA rv σ (a, τ)) (F0 m 0 ls [])) : x_Met l base D dA y cc maxL ret fr lo av f rv := by
  intro σ a τ hM
  refine Met.ofW (cc := cc) (maxL := maxL) (ret := ret) hy rfl ?_
  intro p e s m args below meth c s₁ B hml hv
  obtain ⟨rfl, hRep, hT⟩ := hv
  have hts := atoms_spec (ws := Cond.code y cc maxL ret :: x_all) B.pre
  have hna := x_num_args av 0 (x_cat1 hlt hng)
  have hl := lv_entry av (n := maxL) (by rw [hna.2]; exact hlen)
  rw [hna.1, hlt] at hl
  have hmo := x_okM hM
  have hsz := hRep.2.2.2.2.1
  have hbs := hRep.2.2.2.2.2
  have K := body p e (x_rm fr lo σ τ) s m av.toArray below meth c σ a τ _ rfl rfl ⟨B.exec, B.bytes, hml, findClass_of_methodNamed B.named, fun w h => hts w (List.mem_cons_of_mem _ h), hT⟩ B.returns B.notSynchronized (name_of_methodNamed B.named B.method).1 ⟨hRep, va_S.rf, by omega, ⟨Nat.le_refl _, Nat.le_refl _⟩, hmo, Nat.le_refl _, Nat.le_refl _⟩ hM hl
  rw [lg_entry_eq]
  rw [Nat.sub_self, Nat.sub_self] at K
  exact K
