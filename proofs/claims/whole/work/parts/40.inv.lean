/-! The class's objects by their kinds and numbers: ad c i is the address of object i of class c (10: the rows of digits), T the rows, Q the queues (2 * wire + side) -/
def ix (x : Int32) : Nat := x.toNatClampNeg
theorem ix_nI {n : Nat} (h : n < 2147483648) : ix (nI n) = n := nI_clamp (by omega)
abbrev Ad : Type := Nat → Nat → Nat
abbrev Qs : Type := Nat → List Nat
def cC (T : Tb) : Nat := ix (T 1 0)
def cW (T : Tb) : Nat := ix (T 7 0)
def cB (T : Tb) : Nat := ix (T 14 0)
def cO (T : Tb) : Nat := ix (T 17 0)
def cM (T : Tb) : Nat := ix (T 30 0)
def fixK (b : Nat) (σ : PH) : Prop := x_K σ b = 9 ∧ x_K σ (b + 1) = 4 ∧ x_K σ (b + 2) = 13 ∧ x_K σ (b + 3) = 16 ∧ x_K σ (b + 4) = 11 ∧ x_K σ (b + 5) = 16 ∧ x_K σ (b + 6) = 16 ∧ x_K σ (b + 7) = 1 ∧ x_K σ (b + 8) = 11 ∧ x_K σ (b + 9) = 11 ∧ x_K σ (b + 10) = 15 ∧ x_K σ (b + 11) = 14
def fixL (b : Nat) (σ : PH) : Prop := x_L σ (b + 2) = 10 ∧ x_L σ (b + 3) = 15 ∧ x_L σ (b + 4) = 100 ∧ x_L σ (b + 5) = 100 ∧ x_L σ (b + 6) = 100 ∧ x_L σ (b + 8) = 8 ∧ x_L σ (b + 9) = 8 ∧ x_L σ (b + 10) = 200 ∧ x_L σ (b + 11) = 1000
def fixR (b : Nat) (σ : PH) : Prop := x_R σ 800 b = some (b + 1) ∧ x_R σ 801 b = some (b + 7) ∧ x_R σ 802 b = some (b + 10) ∧ x_R σ 803 b = some (b + 11) ∧ x_R σ 302 (b + 1) = some (b + 2) ∧ x_R σ 303 (b + 1) = some (b + 3) ∧ x_R σ 304 (b + 1) = some (b + 4) ∧ x_R σ 305 (b + 1) = some (b + 5) ∧ x_R σ 306 (b + 1) = some (b + 6) ∧ x_R σ 0 (b + 7) = some (b + 8) ∧ x_R σ 1 (b + 7) = some (b + 9)
/-- the endpoint at which queue k waits -/
def en (T : Tb) (k : Nat) : Nat := if k % 2 = 0 then ix (T 8 (k / 2)) else ix (T 9 (k / 2))
def sw (k : Nat) : Nat := if k % 2 = 0 then k + 1 else k - 1
def RX (b : Nat) (ad : Ad) (T : Tb) (Q : Qs) (σ : PH) : Prop :=
  (fixK b σ) ∧
  (fixL b σ) ∧
  (fixR b σ) ∧
  (∀ a, x_K σ a ≠ 0 → a < x_N σ) ∧
  (∀ i, i < cC T → x_K σ (ad 1 i) = 2) ∧
  (∀ i, i < cM T → x_K σ (ad 2 i) = 3) ∧
  (∀ i, i < cO T → x_K σ (ad 4 i) = 5) ∧
  (∀ i, i < 2 * cW T → x_K σ (ad 5 i) = 6) ∧
  (∀ i, i < cW T → x_K σ (ad 7 i) = 8) ∧
  (∀ i, i < cM T → T 31 i = 0 → x_K σ (ad 6 i) = 7) ∧
  (∀ i, i < cM T → T 31 i = 0 → x_K σ (ad 10 i) = 11 ∧ x_L σ (ad 10 i) = 13 ∧ b + 53 ≤ ad 10 i) ∧
  (∀ i j, i < cC T → j < cC T → (ad 1 i = ad 1 j ↔ i = j)) ∧
  (∀ i j, i < cM T → j < cM T → (ad 2 i = ad 2 j ↔ i = j)) ∧
  (∀ i j, i < cO T → j < cO T → (ad 4 i = ad 4 j ↔ i = j)) ∧
  (∀ i j, i < 2 * cW T → j < 2 * cW T → (ad 5 i = ad 5 j ↔ i = j)) ∧
  (∀ i j, i < cW T → j < cW T → (ad 7 i = ad 7 j ↔ i = j)) ∧
  (∀ i j, i < cM T → j < cM T → T 31 i = 0 → T 31 j = 0 → (ad 6 i = ad 6 j ↔ i = j)) ∧
  (∀ i j, i < cM T → j < cM T → T 31 i = 0 → T 31 j = 0 → (ad 10 i = ad 10 j ↔ i = j)) ∧
  (∀ i, i < cC T → x_I σ 100 (ad 1 i) = nI i) ∧
  (∀ i, i < cC T → x_I σ 101 (ad 1 i) = T 3 i) ∧
  (∀ i, i < cC T → x_I σ 102 (ad 1 i) = T 4 i) ∧
  (∀ i, i < cC T → x_I σ 103 (ad 1 i) = T 2 i) ∧
  (∀ i, i < cC T → x_I σ 104 (ad 1 i) = T 6 i) ∧
  (∀ i, i < cC T → x_I σ 105 (ad 1 i) = T 5 i) ∧
  (∀ i, i < cW T → x_R σ 700 (ad 7 i) = some (ad 5 (2 * i)) ∧ x_R σ 701 (ad 7 i) = some (ad 5 (2 * i + 1))) ∧
  (∀ i, i < cW T → x_I σ 702 (ad 7 i) = T 10 i) ∧
  (∀ i, i < cW T → x_I σ 703 (ad 7 i) = T 11 i) ∧
  (∀ i, i < cW T → x_I σ 704 (ad 7 i) = T 12 i) ∧
  (∀ k, k < 2 * cW T → x_R σ 500 (ad 5 k) = some (ad 1 (en T k)) ∧ x_R σ 501 (ad 5 k) = some (ad 1 (en T (sw k)))) ∧
  (∀ k, k < 2 * cW T → x_I σ 502 (ad 5 k) = nI (Q k).length) ∧
  (∀ k, k < 2 * cW T → x_R σ 503 (ad 5 k) = (Q k).head?.map (ad 2)) ∧
  (∀ k, k < 2 * cW T → x_R σ 504 (ad 5 k) = (Q k).getLast?.map (ad 2)) ∧
  (∀ k, k < 2 * cW T → ∀ i m, (Q k)[i]? = some m → x_R σ 210 (ad 2 m) = (Q k)[i + 1]?.map (ad 2)) ∧
  (∀ m, m < cM T → T 35 m ≠ 0 → x_R σ 210 (ad 2 m) = none) ∧
  (∀ i, i < cO T → x_I σ 400 (ad 4 i) = nI i) ∧
  (∀ i, i < cO T → x_R σ 401 (ad 4 i) = some (ad 1 (ix (T 18 i))) ∧ x_R σ 402 (ad 4 i) = some (ad 1 (ix (T 19 i)))) ∧
  (∀ i, i < cO T → x_I σ 403 (ad 4 i) = T 20 i) ∧
  (∀ i, i < cO T → x_I σ 404 (ad 4 i) = T 21 i) ∧
  (∀ i, i < cO T → x_I σ 405 (ad 4 i) = T 22 i) ∧
  (∀ i, i < cO T → x_I σ 406 (ad 4 i) = T 23 i) ∧
  (∀ i, i < cO T → x_I σ 407 (ad 4 i) = T 24 i) ∧
  (∀ i, i < cO T → x_I σ 408 (ad 4 i) = T 25 i) ∧
  (∀ i, i < cO T → x_I σ 409 (ad 4 i) = T 26 i) ∧
  (∀ i, i < cO T → x_I σ 410 (ad 4 i) = T 27 i) ∧
  (∀ i, i < cO T → x_I σ 411 (ad 4 i) = T 28 i) ∧
  (∀ i, i < cO T → x_I σ 412 (ad 4 i) = T 29 i) ∧
  (∀ i, i < cM T → x_I σ 200 (ad 2 i) = T 31 i) ∧
  (∀ i, i < cM T → x_R σ 201 (ad 2 i) = some (ad 4 (ix (T 32 i)))) ∧
  (∀ i, i < cM T → x_R σ 202 (ad 2 i) = some (ad 1 (ix (T 33 i)))) ∧
  (∀ i, i < cM T → x_R σ 203 (ad 2 i) = some (ad 1 (ix (T 34 i)))) ∧
  (∀ i, i < cM T → x_R σ 204 (ad 2 i) = (if T 31 i = 0 then some (ad 6 i) else none)) ∧
  (∀ i, i < cM T → x_R σ 205 (ad 2 i) = (if T 35 i = 1 then none else some (ad 1 (ix (T 36 i))))) ∧
  (∀ i, i < cM T → x_R σ 206 (ad 2 i) = (if T 35 i = 1 then some (ad 1 (ix (T 36 i))) else none)) ∧
  (∀ i, i < cM T → T 35 i = 1 → x_I σ 207 (ad 2 i) = T 39 i) ∧
  (∀ i, i < cM T → x_I σ 208 (ad 2 i) = T 40 i) ∧
  (∀ i, i < cM T → x_I σ 209 (ad 2 i) = T 41 i) ∧
  (∀ i, i < cM T → T 31 i = 0 → x_I σ 600 (ad 6 i) = T 43 i) ∧
  (∀ i, i < cM T → T 31 i = 0 → x_I σ 602 (ad 6 i) = T 44 i) ∧
  (∀ i, i < cM T → T 31 i = 0 → x_I σ 603 (ad 6 i) = T 42 i) ∧
  (∀ i, i < cM T → T 31 i = 0 → x_R σ 601 (ad 6 i) = some (ad 10 i)) ∧
  (∀ i, i < cM T → T 31 i = 0 → ∀ j, j < 13 → x_A σ (ad 10 i) j = T 45 (13 * i + j)) ∧
  (x_I σ 804 b = T 17 0) ∧
  (x_I σ 805 b = T 30 0) ∧
  (x_I σ 806 b = T 0 0) ∧
  (x_I σ 808 b = T 47 0) ∧
  (x_I σ 809 b = T 48 0) ∧
  (x_I σ 810 b = T 49 0) ∧
  (x_I σ 300 (b + 1) = T 1 0) ∧
  (x_I σ 301 (b + 1) = T 7 0) ∧
  (x_I σ 2 (b + 7) = T 14 0) ∧
  (∀ i, i < cC T → x_Q σ (b + 2) i = some (ad 1 i)) ∧
  (∀ i, i < cW T → x_Q σ (b + 3) i = some (ad 7 i)) ∧
  (∀ i, i < cO T → x_Q σ (b + 10) i = some (ad 4 i)) ∧
  (∀ i, i < cM T → x_Q σ (b + 11) i = some (ad 2 i)) ∧
  (∀ i, i < 8 → x_A σ (b + 8) i = T 15 i) ∧
  (∀ i, i < 8 → x_A σ (b + 9) i = T 16 i) ∧
  (∀ i, i < 100 → x_A σ (b + 4) i = T 13 i)
theorem RX.fK {b : Nat} {ad : Ad} {T : Tb} {Q : Qs} {σ : PH} (h : RX b ad T Q σ) : fixK b σ := h.1
theorem RX.fL {b : Nat} {ad : Ad} {T : Tb} {Q : Qs} {σ : PH} (h : RX b ad T Q σ) : fixL b σ := h.2.1
theorem RX.fR {b : Nat} {ad : Ad} {T : Tb} {Q : Qs} {σ : PH} (h : RX b ad T Q σ) : fixR b σ := h.2.2.1
theorem RX.wf {b : Nat} {ad : Ad} {T : Tb} {Q : Qs} {σ : PH} (h : RX b ad T Q σ) : ∀ a, x_K σ a ≠ 0 → a < x_N σ := h.2.2.2.1
theorem RX.k1 {b : Nat} {ad : Ad} {T : Tb} {Q : Qs} {σ : PH} (h : RX b ad T Q σ) : ∀ i, i < cC T → x_K σ (ad 1 i) = 2 := h.2.2.2.2.1
theorem RX.k2 {b : Nat} {ad : Ad} {T : Tb} {Q : Qs} {σ : PH} (h : RX b ad T Q σ) : ∀ i, i < cM T → x_K σ (ad 2 i) = 3 := h.2.2.2.2.2.1
theorem RX.k4 {b : Nat} {ad : Ad} {T : Tb} {Q : Qs} {σ : PH} (h : RX b ad T Q σ) : ∀ i, i < cO T → x_K σ (ad 4 i) = 5 := h.2.2.2.2.2.2.1
theorem RX.k5 {b : Nat} {ad : Ad} {T : Tb} {Q : Qs} {σ : PH} (h : RX b ad T Q σ) : ∀ i, i < 2 * cW T → x_K σ (ad 5 i) = 6 := h.2.2.2.2.2.2.2.1
theorem RX.k7 {b : Nat} {ad : Ad} {T : Tb} {Q : Qs} {σ : PH} (h : RX b ad T Q σ) : ∀ i, i < cW T → x_K σ (ad 7 i) = 8 := h.2.2.2.2.2.2.2.2.1
theorem RX.k6 {b : Nat} {ad : Ad} {T : Tb} {Q : Qs} {σ : PH} (h : RX b ad T Q σ) : ∀ i, i < cM T → T 31 i = 0 → x_K σ (ad 6 i) = 7 := h.2.2.2.2.2.2.2.2.2.1
theorem RX.kd {b : Nat} {ad : Ad} {T : Tb} {Q : Qs} {σ : PH} (h : RX b ad T Q σ) : ∀ i, i < cM T → T 31 i = 0 → x_K σ (ad 10 i) = 11 ∧ x_L σ (ad 10 i) = 13 ∧ b + 53 ≤ ad 10 i := h.2.2.2.2.2.2.2.2.2.2.1
theorem RX.j1 {b : Nat} {ad : Ad} {T : Tb} {Q : Qs} {σ : PH} (h : RX b ad T Q σ) : ∀ i j, i < cC T → j < cC T → (ad 1 i = ad 1 j ↔ i = j) := h.2.2.2.2.2.2.2.2.2.2.2.1
theorem RX.j2 {b : Nat} {ad : Ad} {T : Tb} {Q : Qs} {σ : PH} (h : RX b ad T Q σ) : ∀ i j, i < cM T → j < cM T → (ad 2 i = ad 2 j ↔ i = j) := h.2.2.2.2.2.2.2.2.2.2.2.2.1
theorem RX.j4 {b : Nat} {ad : Ad} {T : Tb} {Q : Qs} {σ : PH} (h : RX b ad T Q σ) : ∀ i j, i < cO T → j < cO T → (ad 4 i = ad 4 j ↔ i = j) := h.2.2.2.2.2.2.2.2.2.2.2.2.2.1
theorem RX.j5 {b : Nat} {ad : Ad} {T : Tb} {Q : Qs} {σ : PH} (h : RX b ad T Q σ) : ∀ i j, i < 2 * cW T → j < 2 * cW T → (ad 5 i = ad 5 j ↔ i = j) := h.2.2.2.2.2.2.2.2.2.2.2.2.2.2.1
theorem RX.j7 {b : Nat} {ad : Ad} {T : Tb} {Q : Qs} {σ : PH} (h : RX b ad T Q σ) : ∀ i j, i < cW T → j < cW T → (ad 7 i = ad 7 j ↔ i = j) := h.2.2.2.2.2.2.2.2.2.2.2.2.2.2.2.1
theorem RX.j6 {b : Nat} {ad : Ad} {T : Tb} {Q : Qs} {σ : PH} (h : RX b ad T Q σ) : ∀ i j, i < cM T → j < cM T → T 31 i = 0 → T 31 j = 0 → (ad 6 i = ad 6 j ↔ i = j) := h.2.2.2.2.2.2.2.2.2.2.2.2.2.2.2.2.1
theorem RX.jd {b : Nat} {ad : Ad} {T : Tb} {Q : Qs} {σ : PH} (h : RX b ad T Q σ) : ∀ i j, i < cM T → j < cM T → T 31 i = 0 → T 31 j = 0 → (ad 10 i = ad 10 j ↔ i = j) := h.2.2.2.2.2.2.2.2.2.2.2.2.2.2.2.2.2.1
theorem RX.c0 {b : Nat} {ad : Ad} {T : Tb} {Q : Qs} {σ : PH} (h : RX b ad T Q σ) : ∀ i, i < cC T → x_I σ 100 (ad 1 i) = nI i := h.2.2.2.2.2.2.2.2.2.2.2.2.2.2.2.2.2.2.1
theorem RX.c1 {b : Nat} {ad : Ad} {T : Tb} {Q : Qs} {σ : PH} (h : RX b ad T Q σ) : ∀ i, i < cC T → x_I σ 101 (ad 1 i) = T 3 i := h.2.2.2.2.2.2.2.2.2.2.2.2.2.2.2.2.2.2.2.1
theorem RX.c2 {b : Nat} {ad : Ad} {T : Tb} {Q : Qs} {σ : PH} (h : RX b ad T Q σ) : ∀ i, i < cC T → x_I σ 102 (ad 1 i) = T 4 i := h.2.2.2.2.2.2.2.2.2.2.2.2.2.2.2.2.2.2.2.2.1
theorem RX.c3 {b : Nat} {ad : Ad} {T : Tb} {Q : Qs} {σ : PH} (h : RX b ad T Q σ) : ∀ i, i < cC T → x_I σ 103 (ad 1 i) = T 2 i := h.2.2.2.2.2.2.2.2.2.2.2.2.2.2.2.2.2.2.2.2.2.1
theorem RX.c4 {b : Nat} {ad : Ad} {T : Tb} {Q : Qs} {σ : PH} (h : RX b ad T Q σ) : ∀ i, i < cC T → x_I σ 104 (ad 1 i) = T 6 i := h.2.2.2.2.2.2.2.2.2.2.2.2.2.2.2.2.2.2.2.2.2.2.1
theorem RX.c5 {b : Nat} {ad : Ad} {T : Tb} {Q : Qs} {σ : PH} (h : RX b ad T Q σ) : ∀ i, i < cC T → x_I σ 105 (ad 1 i) = T 5 i := h.2.2.2.2.2.2.2.2.2.2.2.2.2.2.2.2.2.2.2.2.2.2.2.1
theorem RX.w0 {b : Nat} {ad : Ad} {T : Tb} {Q : Qs} {σ : PH} (h : RX b ad T Q σ) : ∀ i, i < cW T → x_R σ 700 (ad 7 i) = some (ad 5 (2 * i)) ∧ x_R σ 701 (ad 7 i) = some (ad 5 (2 * i + 1)) := h.2.2.2.2.2.2.2.2.2.2.2.2.2.2.2.2.2.2.2.2.2.2.2.2.1
theorem RX.w2 {b : Nat} {ad : Ad} {T : Tb} {Q : Qs} {σ : PH} (h : RX b ad T Q σ) : ∀ i, i < cW T → x_I σ 702 (ad 7 i) = T 10 i := h.2.2.2.2.2.2.2.2.2.2.2.2.2.2.2.2.2.2.2.2.2.2.2.2.2.1
theorem RX.w3 {b : Nat} {ad : Ad} {T : Tb} {Q : Qs} {σ : PH} (h : RX b ad T Q σ) : ∀ i, i < cW T → x_I σ 703 (ad 7 i) = T 11 i := h.2.2.2.2.2.2.2.2.2.2.2.2.2.2.2.2.2.2.2.2.2.2.2.2.2.2.1
theorem RX.w4 {b : Nat} {ad : Ad} {T : Tb} {Q : Qs} {σ : PH} (h : RX b ad T Q σ) : ∀ i, i < cW T → x_I σ 704 (ad 7 i) = T 12 i := h.2.2.2.2.2.2.2.2.2.2.2.2.2.2.2.2.2.2.2.2.2.2.2.2.2.2.2.1
theorem RX.q0 {b : Nat} {ad : Ad} {T : Tb} {Q : Qs} {σ : PH} (h : RX b ad T Q σ) : ∀ k, k < 2 * cW T → x_R σ 500 (ad 5 k) = some (ad 1 (en T k)) ∧ x_R σ 501 (ad 5 k) = some (ad 1 (en T (sw k))) := h.2.2.2.2.2.2.2.2.2.2.2.2.2.2.2.2.2.2.2.2.2.2.2.2.2.2.2.2.1
theorem RX.q2 {b : Nat} {ad : Ad} {T : Tb} {Q : Qs} {σ : PH} (h : RX b ad T Q σ) : ∀ k, k < 2 * cW T → x_I σ 502 (ad 5 k) = nI (Q k).length := h.2.2.2.2.2.2.2.2.2.2.2.2.2.2.2.2.2.2.2.2.2.2.2.2.2.2.2.2.2.1
theorem RX.q3 {b : Nat} {ad : Ad} {T : Tb} {Q : Qs} {σ : PH} (h : RX b ad T Q σ) : ∀ k, k < 2 * cW T → x_R σ 503 (ad 5 k) = (Q k).head?.map (ad 2) := h.2.2.2.2.2.2.2.2.2.2.2.2.2.2.2.2.2.2.2.2.2.2.2.2.2.2.2.2.2.2.1
theorem RX.q4 {b : Nat} {ad : Ad} {T : Tb} {Q : Qs} {σ : PH} (h : RX b ad T Q σ) : ∀ k, k < 2 * cW T → x_R σ 504 (ad 5 k) = (Q k).getLast?.map (ad 2) := h.2.2.2.2.2.2.2.2.2.2.2.2.2.2.2.2.2.2.2.2.2.2.2.2.2.2.2.2.2.2.2.1
theorem RX.qn {b : Nat} {ad : Ad} {T : Tb} {Q : Qs} {σ : PH} (h : RX b ad T Q σ) : ∀ k, k < 2 * cW T → ∀ i m, (Q k)[i]? = some m → x_R σ 210 (ad 2 m) = (Q k)[i + 1]?.map (ad 2) := h.2.2.2.2.2.2.2.2.2.2.2.2.2.2.2.2.2.2.2.2.2.2.2.2.2.2.2.2.2.2.2.2.1
theorem RX.qz {b : Nat} {ad : Ad} {T : Tb} {Q : Qs} {σ : PH} (h : RX b ad T Q σ) : ∀ m, m < cM T → T 35 m ≠ 0 → x_R σ 210 (ad 2 m) = none := h.2.2.2.2.2.2.2.2.2.2.2.2.2.2.2.2.2.2.2.2.2.2.2.2.2.2.2.2.2.2.2.2.2.1
theorem RX.o0 {b : Nat} {ad : Ad} {T : Tb} {Q : Qs} {σ : PH} (h : RX b ad T Q σ) : ∀ i, i < cO T → x_I σ 400 (ad 4 i) = nI i := h.2.2.2.2.2.2.2.2.2.2.2.2.2.2.2.2.2.2.2.2.2.2.2.2.2.2.2.2.2.2.2.2.2.2.1
theorem RX.o1 {b : Nat} {ad : Ad} {T : Tb} {Q : Qs} {σ : PH} (h : RX b ad T Q σ) : ∀ i, i < cO T → x_R σ 401 (ad 4 i) = some (ad 1 (ix (T 18 i))) ∧ x_R σ 402 (ad 4 i) = some (ad 1 (ix (T 19 i))) := h.2.2.2.2.2.2.2.2.2.2.2.2.2.2.2.2.2.2.2.2.2.2.2.2.2.2.2.2.2.2.2.2.2.2.2.1
theorem RX.o3 {b : Nat} {ad : Ad} {T : Tb} {Q : Qs} {σ : PH} (h : RX b ad T Q σ) : ∀ i, i < cO T → x_I σ 403 (ad 4 i) = T 20 i := h.2.2.2.2.2.2.2.2.2.2.2.2.2.2.2.2.2.2.2.2.2.2.2.2.2.2.2.2.2.2.2.2.2.2.2.2.1
theorem RX.o4 {b : Nat} {ad : Ad} {T : Tb} {Q : Qs} {σ : PH} (h : RX b ad T Q σ) : ∀ i, i < cO T → x_I σ 404 (ad 4 i) = T 21 i := h.2.2.2.2.2.2.2.2.2.2.2.2.2.2.2.2.2.2.2.2.2.2.2.2.2.2.2.2.2.2.2.2.2.2.2.2.2.1
theorem RX.o5 {b : Nat} {ad : Ad} {T : Tb} {Q : Qs} {σ : PH} (h : RX b ad T Q σ) : ∀ i, i < cO T → x_I σ 405 (ad 4 i) = T 22 i := h.2.2.2.2.2.2.2.2.2.2.2.2.2.2.2.2.2.2.2.2.2.2.2.2.2.2.2.2.2.2.2.2.2.2.2.2.2.2.1
theorem RX.o6 {b : Nat} {ad : Ad} {T : Tb} {Q : Qs} {σ : PH} (h : RX b ad T Q σ) : ∀ i, i < cO T → x_I σ 406 (ad 4 i) = T 23 i := h.2.2.2.2.2.2.2.2.2.2.2.2.2.2.2.2.2.2.2.2.2.2.2.2.2.2.2.2.2.2.2.2.2.2.2.2.2.2.2.1
theorem RX.o7 {b : Nat} {ad : Ad} {T : Tb} {Q : Qs} {σ : PH} (h : RX b ad T Q σ) : ∀ i, i < cO T → x_I σ 407 (ad 4 i) = T 24 i := h.2.2.2.2.2.2.2.2.2.2.2.2.2.2.2.2.2.2.2.2.2.2.2.2.2.2.2.2.2.2.2.2.2.2.2.2.2.2.2.2.1
theorem RX.o8 {b : Nat} {ad : Ad} {T : Tb} {Q : Qs} {σ : PH} (h : RX b ad T Q σ) : ∀ i, i < cO T → x_I σ 408 (ad 4 i) = T 25 i := h.2.2.2.2.2.2.2.2.2.2.2.2.2.2.2.2.2.2.2.2.2.2.2.2.2.2.2.2.2.2.2.2.2.2.2.2.2.2.2.2.2.1
theorem RX.o9 {b : Nat} {ad : Ad} {T : Tb} {Q : Qs} {σ : PH} (h : RX b ad T Q σ) : ∀ i, i < cO T → x_I σ 409 (ad 4 i) = T 26 i := h.2.2.2.2.2.2.2.2.2.2.2.2.2.2.2.2.2.2.2.2.2.2.2.2.2.2.2.2.2.2.2.2.2.2.2.2.2.2.2.2.2.2.1
theorem RX.o10 {b : Nat} {ad : Ad} {T : Tb} {Q : Qs} {σ : PH} (h : RX b ad T Q σ) : ∀ i, i < cO T → x_I σ 410 (ad 4 i) = T 27 i := h.2.2.2.2.2.2.2.2.2.2.2.2.2.2.2.2.2.2.2.2.2.2.2.2.2.2.2.2.2.2.2.2.2.2.2.2.2.2.2.2.2.2.2.1
theorem RX.o11 {b : Nat} {ad : Ad} {T : Tb} {Q : Qs} {σ : PH} (h : RX b ad T Q σ) : ∀ i, i < cO T → x_I σ 411 (ad 4 i) = T 28 i := h.2.2.2.2.2.2.2.2.2.2.2.2.2.2.2.2.2.2.2.2.2.2.2.2.2.2.2.2.2.2.2.2.2.2.2.2.2.2.2.2.2.2.2.2.1
theorem RX.o12 {b : Nat} {ad : Ad} {T : Tb} {Q : Qs} {σ : PH} (h : RX b ad T Q σ) : ∀ i, i < cO T → x_I σ 412 (ad 4 i) = T 29 i := h.2.2.2.2.2.2.2.2.2.2.2.2.2.2.2.2.2.2.2.2.2.2.2.2.2.2.2.2.2.2.2.2.2.2.2.2.2.2.2.2.2.2.2.2.2.1
theorem RX.m0 {b : Nat} {ad : Ad} {T : Tb} {Q : Qs} {σ : PH} (h : RX b ad T Q σ) : ∀ i, i < cM T → x_I σ 200 (ad 2 i) = T 31 i := h.2.2.2.2.2.2.2.2.2.2.2.2.2.2.2.2.2.2.2.2.2.2.2.2.2.2.2.2.2.2.2.2.2.2.2.2.2.2.2.2.2.2.2.2.2.2.1
theorem RX.m1 {b : Nat} {ad : Ad} {T : Tb} {Q : Qs} {σ : PH} (h : RX b ad T Q σ) : ∀ i, i < cM T → x_R σ 201 (ad 2 i) = some (ad 4 (ix (T 32 i))) := h.2.2.2.2.2.2.2.2.2.2.2.2.2.2.2.2.2.2.2.2.2.2.2.2.2.2.2.2.2.2.2.2.2.2.2.2.2.2.2.2.2.2.2.2.2.2.2.1
theorem RX.m2 {b : Nat} {ad : Ad} {T : Tb} {Q : Qs} {σ : PH} (h : RX b ad T Q σ) : ∀ i, i < cM T → x_R σ 202 (ad 2 i) = some (ad 1 (ix (T 33 i))) := h.2.2.2.2.2.2.2.2.2.2.2.2.2.2.2.2.2.2.2.2.2.2.2.2.2.2.2.2.2.2.2.2.2.2.2.2.2.2.2.2.2.2.2.2.2.2.2.2.1
theorem RX.m3 {b : Nat} {ad : Ad} {T : Tb} {Q : Qs} {σ : PH} (h : RX b ad T Q σ) : ∀ i, i < cM T → x_R σ 203 (ad 2 i) = some (ad 1 (ix (T 34 i))) := h.2.2.2.2.2.2.2.2.2.2.2.2.2.2.2.2.2.2.2.2.2.2.2.2.2.2.2.2.2.2.2.2.2.2.2.2.2.2.2.2.2.2.2.2.2.2.2.2.2.1
theorem RX.m4 {b : Nat} {ad : Ad} {T : Tb} {Q : Qs} {σ : PH} (h : RX b ad T Q σ) : ∀ i, i < cM T → x_R σ 204 (ad 2 i) = (if T 31 i = 0 then some (ad 6 i) else none) := h.2.2.2.2.2.2.2.2.2.2.2.2.2.2.2.2.2.2.2.2.2.2.2.2.2.2.2.2.2.2.2.2.2.2.2.2.2.2.2.2.2.2.2.2.2.2.2.2.2.2.1
theorem RX.m5 {b : Nat} {ad : Ad} {T : Tb} {Q : Qs} {σ : PH} (h : RX b ad T Q σ) : ∀ i, i < cM T → x_R σ 205 (ad 2 i) = (if T 35 i = 1 then none else some (ad 1 (ix (T 36 i)))) := h.2.2.2.2.2.2.2.2.2.2.2.2.2.2.2.2.2.2.2.2.2.2.2.2.2.2.2.2.2.2.2.2.2.2.2.2.2.2.2.2.2.2.2.2.2.2.2.2.2.2.2.1
theorem RX.m6 {b : Nat} {ad : Ad} {T : Tb} {Q : Qs} {σ : PH} (h : RX b ad T Q σ) : ∀ i, i < cM T → x_R σ 206 (ad 2 i) = (if T 35 i = 1 then some (ad 1 (ix (T 36 i))) else none) := h.2.2.2.2.2.2.2.2.2.2.2.2.2.2.2.2.2.2.2.2.2.2.2.2.2.2.2.2.2.2.2.2.2.2.2.2.2.2.2.2.2.2.2.2.2.2.2.2.2.2.2.2.1
theorem RX.m7 {b : Nat} {ad : Ad} {T : Tb} {Q : Qs} {σ : PH} (h : RX b ad T Q σ) : ∀ i, i < cM T → T 35 i = 1 → x_I σ 207 (ad 2 i) = T 39 i := h.2.2.2.2.2.2.2.2.2.2.2.2.2.2.2.2.2.2.2.2.2.2.2.2.2.2.2.2.2.2.2.2.2.2.2.2.2.2.2.2.2.2.2.2.2.2.2.2.2.2.2.2.2.1
theorem RX.m8 {b : Nat} {ad : Ad} {T : Tb} {Q : Qs} {σ : PH} (h : RX b ad T Q σ) : ∀ i, i < cM T → x_I σ 208 (ad 2 i) = T 40 i := h.2.2.2.2.2.2.2.2.2.2.2.2.2.2.2.2.2.2.2.2.2.2.2.2.2.2.2.2.2.2.2.2.2.2.2.2.2.2.2.2.2.2.2.2.2.2.2.2.2.2.2.2.2.2.1
theorem RX.m9 {b : Nat} {ad : Ad} {T : Tb} {Q : Qs} {σ : PH} (h : RX b ad T Q σ) : ∀ i, i < cM T → x_I σ 209 (ad 2 i) = T 41 i := h.2.2.2.2.2.2.2.2.2.2.2.2.2.2.2.2.2.2.2.2.2.2.2.2.2.2.2.2.2.2.2.2.2.2.2.2.2.2.2.2.2.2.2.2.2.2.2.2.2.2.2.2.2.2.2.1
theorem RX.s0 {b : Nat} {ad : Ad} {T : Tb} {Q : Qs} {σ : PH} (h : RX b ad T Q σ) : ∀ i, i < cM T → T 31 i = 0 → x_I σ 600 (ad 6 i) = T 43 i := h.2.2.2.2.2.2.2.2.2.2.2.2.2.2.2.2.2.2.2.2.2.2.2.2.2.2.2.2.2.2.2.2.2.2.2.2.2.2.2.2.2.2.2.2.2.2.2.2.2.2.2.2.2.2.2.2.1
theorem RX.s2 {b : Nat} {ad : Ad} {T : Tb} {Q : Qs} {σ : PH} (h : RX b ad T Q σ) : ∀ i, i < cM T → T 31 i = 0 → x_I σ 602 (ad 6 i) = T 44 i := h.2.2.2.2.2.2.2.2.2.2.2.2.2.2.2.2.2.2.2.2.2.2.2.2.2.2.2.2.2.2.2.2.2.2.2.2.2.2.2.2.2.2.2.2.2.2.2.2.2.2.2.2.2.2.2.2.2.1
theorem RX.s3 {b : Nat} {ad : Ad} {T : Tb} {Q : Qs} {σ : PH} (h : RX b ad T Q σ) : ∀ i, i < cM T → T 31 i = 0 → x_I σ 603 (ad 6 i) = T 42 i := h.2.2.2.2.2.2.2.2.2.2.2.2.2.2.2.2.2.2.2.2.2.2.2.2.2.2.2.2.2.2.2.2.2.2.2.2.2.2.2.2.2.2.2.2.2.2.2.2.2.2.2.2.2.2.2.2.2.2.1
theorem RX.s1 {b : Nat} {ad : Ad} {T : Tb} {Q : Qs} {σ : PH} (h : RX b ad T Q σ) : ∀ i, i < cM T → T 31 i = 0 → x_R σ 601 (ad 6 i) = some (ad 10 i) := h.2.2.2.2.2.2.2.2.2.2.2.2.2.2.2.2.2.2.2.2.2.2.2.2.2.2.2.2.2.2.2.2.2.2.2.2.2.2.2.2.2.2.2.2.2.2.2.2.2.2.2.2.2.2.2.2.2.2.2.1
theorem RX.sd {b : Nat} {ad : Ad} {T : Tb} {Q : Qs} {σ : PH} (h : RX b ad T Q σ) : ∀ i, i < cM T → T 31 i = 0 → ∀ j, j < 13 → x_A σ (ad 10 i) j = T 45 (13 * i + j) := h.2.2.2.2.2.2.2.2.2.2.2.2.2.2.2.2.2.2.2.2.2.2.2.2.2.2.2.2.2.2.2.2.2.2.2.2.2.2.2.2.2.2.2.2.2.2.2.2.2.2.2.2.2.2.2.2.2.2.2.2.1
theorem RX.z804 {b : Nat} {ad : Ad} {T : Tb} {Q : Qs} {σ : PH} (h : RX b ad T Q σ) : x_I σ 804 b = T 17 0 := h.2.2.2.2.2.2.2.2.2.2.2.2.2.2.2.2.2.2.2.2.2.2.2.2.2.2.2.2.2.2.2.2.2.2.2.2.2.2.2.2.2.2.2.2.2.2.2.2.2.2.2.2.2.2.2.2.2.2.2.2.2.1
theorem RX.z805 {b : Nat} {ad : Ad} {T : Tb} {Q : Qs} {σ : PH} (h : RX b ad T Q σ) : x_I σ 805 b = T 30 0 := h.2.2.2.2.2.2.2.2.2.2.2.2.2.2.2.2.2.2.2.2.2.2.2.2.2.2.2.2.2.2.2.2.2.2.2.2.2.2.2.2.2.2.2.2.2.2.2.2.2.2.2.2.2.2.2.2.2.2.2.2.2.2.1
theorem RX.z806 {b : Nat} {ad : Ad} {T : Tb} {Q : Qs} {σ : PH} (h : RX b ad T Q σ) : x_I σ 806 b = T 0 0 := h.2.2.2.2.2.2.2.2.2.2.2.2.2.2.2.2.2.2.2.2.2.2.2.2.2.2.2.2.2.2.2.2.2.2.2.2.2.2.2.2.2.2.2.2.2.2.2.2.2.2.2.2.2.2.2.2.2.2.2.2.2.2.2.1
theorem RX.z808 {b : Nat} {ad : Ad} {T : Tb} {Q : Qs} {σ : PH} (h : RX b ad T Q σ) : x_I σ 808 b = T 47 0 := h.2.2.2.2.2.2.2.2.2.2.2.2.2.2.2.2.2.2.2.2.2.2.2.2.2.2.2.2.2.2.2.2.2.2.2.2.2.2.2.2.2.2.2.2.2.2.2.2.2.2.2.2.2.2.2.2.2.2.2.2.2.2.2.2.1
theorem RX.z809 {b : Nat} {ad : Ad} {T : Tb} {Q : Qs} {σ : PH} (h : RX b ad T Q σ) : x_I σ 809 b = T 48 0 := h.2.2.2.2.2.2.2.2.2.2.2.2.2.2.2.2.2.2.2.2.2.2.2.2.2.2.2.2.2.2.2.2.2.2.2.2.2.2.2.2.2.2.2.2.2.2.2.2.2.2.2.2.2.2.2.2.2.2.2.2.2.2.2.2.2.1
theorem RX.z810 {b : Nat} {ad : Ad} {T : Tb} {Q : Qs} {σ : PH} (h : RX b ad T Q σ) : x_I σ 810 b = T 49 0 := h.2.2.2.2.2.2.2.2.2.2.2.2.2.2.2.2.2.2.2.2.2.2.2.2.2.2.2.2.2.2.2.2.2.2.2.2.2.2.2.2.2.2.2.2.2.2.2.2.2.2.2.2.2.2.2.2.2.2.2.2.2.2.2.2.2.2.1
theorem RX.z300 {b : Nat} {ad : Ad} {T : Tb} {Q : Qs} {σ : PH} (h : RX b ad T Q σ) : x_I σ 300 (b + 1) = T 1 0 := h.2.2.2.2.2.2.2.2.2.2.2.2.2.2.2.2.2.2.2.2.2.2.2.2.2.2.2.2.2.2.2.2.2.2.2.2.2.2.2.2.2.2.2.2.2.2.2.2.2.2.2.2.2.2.2.2.2.2.2.2.2.2.2.2.2.2.2.1
theorem RX.z301 {b : Nat} {ad : Ad} {T : Tb} {Q : Qs} {σ : PH} (h : RX b ad T Q σ) : x_I σ 301 (b + 1) = T 7 0 := h.2.2.2.2.2.2.2.2.2.2.2.2.2.2.2.2.2.2.2.2.2.2.2.2.2.2.2.2.2.2.2.2.2.2.2.2.2.2.2.2.2.2.2.2.2.2.2.2.2.2.2.2.2.2.2.2.2.2.2.2.2.2.2.2.2.2.2.2.1
theorem RX.z2 {b : Nat} {ad : Ad} {T : Tb} {Q : Qs} {σ : PH} (h : RX b ad T Q σ) : x_I σ 2 (b + 7) = T 14 0 := h.2.2.2.2.2.2.2.2.2.2.2.2.2.2.2.2.2.2.2.2.2.2.2.2.2.2.2.2.2.2.2.2.2.2.2.2.2.2.2.2.2.2.2.2.2.2.2.2.2.2.2.2.2.2.2.2.2.2.2.2.2.2.2.2.2.2.2.2.2.1
theorem RX.a1 {b : Nat} {ad : Ad} {T : Tb} {Q : Qs} {σ : PH} (h : RX b ad T Q σ) : ∀ i, i < cC T → x_Q σ (b + 2) i = some (ad 1 i) := h.2.2.2.2.2.2.2.2.2.2.2.2.2.2.2.2.2.2.2.2.2.2.2.2.2.2.2.2.2.2.2.2.2.2.2.2.2.2.2.2.2.2.2.2.2.2.2.2.2.2.2.2.2.2.2.2.2.2.2.2.2.2.2.2.2.2.2.2.2.2.1
theorem RX.a7 {b : Nat} {ad : Ad} {T : Tb} {Q : Qs} {σ : PH} (h : RX b ad T Q σ) : ∀ i, i < cW T → x_Q σ (b + 3) i = some (ad 7 i) := h.2.2.2.2.2.2.2.2.2.2.2.2.2.2.2.2.2.2.2.2.2.2.2.2.2.2.2.2.2.2.2.2.2.2.2.2.2.2.2.2.2.2.2.2.2.2.2.2.2.2.2.2.2.2.2.2.2.2.2.2.2.2.2.2.2.2.2.2.2.2.2.1
theorem RX.a4 {b : Nat} {ad : Ad} {T : Tb} {Q : Qs} {σ : PH} (h : RX b ad T Q σ) : ∀ i, i < cO T → x_Q σ (b + 10) i = some (ad 4 i) := h.2.2.2.2.2.2.2.2.2.2.2.2.2.2.2.2.2.2.2.2.2.2.2.2.2.2.2.2.2.2.2.2.2.2.2.2.2.2.2.2.2.2.2.2.2.2.2.2.2.2.2.2.2.2.2.2.2.2.2.2.2.2.2.2.2.2.2.2.2.2.2.2.1
theorem RX.a2 {b : Nat} {ad : Ad} {T : Tb} {Q : Qs} {σ : PH} (h : RX b ad T Q σ) : ∀ i, i < cM T → x_Q σ (b + 11) i = some (ad 2 i) := h.2.2.2.2.2.2.2.2.2.2.2.2.2.2.2.2.2.2.2.2.2.2.2.2.2.2.2.2.2.2.2.2.2.2.2.2.2.2.2.2.2.2.2.2.2.2.2.2.2.2.2.2.2.2.2.2.2.2.2.2.2.2.2.2.2.2.2.2.2.2.2.2.2.1
theorem RX.ab {b : Nat} {ad : Ad} {T : Tb} {Q : Qs} {σ : PH} (h : RX b ad T Q σ) : ∀ i, i < 8 → x_A σ (b + 8) i = T 15 i := h.2.2.2.2.2.2.2.2.2.2.2.2.2.2.2.2.2.2.2.2.2.2.2.2.2.2.2.2.2.2.2.2.2.2.2.2.2.2.2.2.2.2.2.2.2.2.2.2.2.2.2.2.2.2.2.2.2.2.2.2.2.2.2.2.2.2.2.2.2.2.2.2.2.2.1
theorem RX.af {b : Nat} {ad : Ad} {T : Tb} {Q : Qs} {σ : PH} (h : RX b ad T Q σ) : ∀ i, i < 8 → x_A σ (b + 9) i = T 16 i := h.2.2.2.2.2.2.2.2.2.2.2.2.2.2.2.2.2.2.2.2.2.2.2.2.2.2.2.2.2.2.2.2.2.2.2.2.2.2.2.2.2.2.2.2.2.2.2.2.2.2.2.2.2.2.2.2.2.2.2.2.2.2.2.2.2.2.2.2.2.2.2.2.2.2.2.1
theorem RX.al {b : Nat} {ad : Ad} {T : Tb} {Q : Qs} {σ : PH} (h : RX b ad T Q σ) : ∀ i, i < 100 → x_A σ (b + 4) i = T 13 i := h.2.2.2.2.2.2.2.2.2.2.2.2.2.2.2.2.2.2.2.2.2.2.2.2.2.2.2.2.2.2.2.2.2.2.2.2.2.2.2.2.2.2.2.2.2.2.2.2.2.2.2.2.2.2.2.2.2.2.2.2.2.2.2.2.2.2.2.2.2.2.2.2.2.2.2.2
