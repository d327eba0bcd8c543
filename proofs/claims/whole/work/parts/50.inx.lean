/-- class rows T, the reference still at T2 -/
def INX (s k b : Nat) (ad : Ad) (T : Tb) (Q : Qs) (T2 : Tb) (σ : PH) : Prop := RX b ad T Q σ ∧ RM b T2 σ ∧ JT s T ∧ JQ T Q ∧ NA b k T σ ∧ WY b ad T σ ∧ RN b T σ
theorem INX.done {b : Nat} {ad : Ad} {T T2 : Tb} {Q : Qs} {σ : PH} (h : INX 0 1000 b ad T Q T2 σ) : INV b ad T Q (x_wT σ (b + 12) T) := by
  obtain ⟨h1, h2, h3, h4, h5, h6, h7⟩ := h
  refine ⟨h1.wT, h2.wT T, h3, h4, ?_, h6, h7⟩
  intro m hm hm2 hs
  rw [x_wT_Il _ _ _ _ _ (by decide)]
  exact h5 m hm hm2 hs
theorem SIM.write {b : Nat} {ad : Ad} {T T' : Tb} {Q : Qs} {σ σ1 : PH} {fx fm : PM Int32} {g : TM Int32} {r : Int32} (h : INX 0 1000 b ad T' Q T σ1) (hx : x_rn fx σ = some (r, σ1)) (hs : x_Ks σ1 (b + 12) → simT σ1 (b + 12) fm g) (hg : g T = some (r, T')) : SIM b fx fm σ :=
  ⟨r, σ1, x_wT σ1 (b + 12) T', ad, T', Q, hx, h.2.1.1.1, h.2.1.run hs hg, h.done⟩
theorem INV.x {b : Nat} {ad : Ad} {T : Tb} {Q : Qs} {σ : PH} (h : INV b ad T Q σ) : INX 0 1000 b ad T Q T σ := h
theorem x_up_comm {α : Type} (f : Nat → Nat → α) {i j i' j' : Nat} (v w : α) (h : ¬ (i = i' ∧ j = j')) : x_up (x_up f i j v) i' j' w = x_up (x_up f i' j' w) i j v := by
  funext x y
  unfold x_up
  by_cases h1 : x = i ∧ y = j
  · have : ¬ (x = i' ∧ y = j') := fun q => h ⟨h1.1.symm.trans q.1, h1.2.symm.trans q.2⟩
    simp only [h1, this, if_true, if_false, and_self]
    rw [if_neg (by rw [← h1.1, ← h1.2]; exact this)]
  · simp only [h1, if_false]
theorem JT.u2 {T : Tb} {s : Nat} (h : JT s T) {j : Nat} (hj : j < cC T) {v : Int32} : JT s (x_up T 2 j v) := by
  obtain ⟨hC, hW, hB, hO, hM, hnw, hpu, hop, hwi, hls, hdg, hrl, hsp, hor, hme, hmq, hmw, hmr, hfC, hfW, hfO, hfM, hkn⟩ := h
  exact ⟨hC, hW, hB, hO, hM, hnw, hpu, hop, hwi, hls, hdg, hrl, hsp, hor, hme, hmq, hmw, hmr, hfC, hfW, hfO, hfM, hkn⟩
theorem INX.u2 {b : Nat} {ad : Ad} {T T2 : Tb} {Q : Qs} {σ : PH} {s k : Nat} (h : INX s k b ad T Q T2 σ) {j : Nat} (hj : j < cC T) (v : Int32) : INX s k b ad (x_up T 2 j v) Q T2 (x_uI σ 103 (ad 1 j) v) := by
  obtain ⟨h1, h2, h3, h4, h5, h6, h7⟩ := h
  exact ⟨h1.u2 hj v, h2.uI v (by decide), h3.u2 hj, h4, h5, h6.congr rfl rfl rfl rfl rfl rfl, h7⟩
theorem JT.u6 {T : Tb} {s : Nat} (h : JT s T) {j : Nat} (hj : j < cC T) {v : Int32} : JT s (x_up T 6 j v) := by
  obtain ⟨hC, hW, hB, hO, hM, hnw, hpu, hop, hwi, hls, hdg, hrl, hsp, hor, hme, hmq, hmw, hmr, hfC, hfW, hfO, hfM, hkn⟩ := h
  exact ⟨hC, hW, hB, hO, hM, hnw, hpu, hop, hwi, hls, hdg, hrl, hsp, hor, hme, hmq, hmw, hmr, (fun i hi => by have hne : ¬ i = j := (by have : cC T ≤ i := hi; omega); have q := hfC i hi; simp only [x_up, hne, and_false, if_false]; exact q), hfW, hfO, hfM, hkn⟩
theorem INX.u6 {b : Nat} {ad : Ad} {T T2 : Tb} {Q : Qs} {σ : PH} {s k : Nat} (h : INX s k b ad T Q T2 σ) {j : Nat} (hj : j < cC T) (v : Int32) : INX s k b ad (x_up T 6 j v) Q T2 (x_uI σ 104 (ad 1 j) v) := by
  obtain ⟨h1, h2, h3, h4, h5, h6, h7⟩ := h
  exact ⟨h1.u6 hj v, h2.uI v (by decide), h3.u6 hj, h4, h5, h6.congr rfl rfl rfl rfl rfl rfl, h7⟩
theorem JT.u5 {T : Tb} {s : Nat} (h : JT s T) {j : Nat} (hj : j < cC T) {v : Int32} : JT s (x_up T 5 j v) := by
  obtain ⟨hC, hW, hB, hO, hM, hnw, hpu, hop, hwi, hls, hdg, hrl, hsp, hor, hme, hmq, hmw, hmr, hfC, hfW, hfO, hfM, hkn⟩ := h
  exact ⟨hC, hW, hB, hO, hM, hnw, hpu, hop, hwi, hls, hdg, hrl, hsp, hor, hme, hmq, hmw, hmr, (fun i hi => by have hne : ¬ i = j := (by have : cC T ≤ i := hi; omega); have q := hfC i hi; simp only [x_up, hne, and_false, if_false]; exact q), hfW, hfO, hfM, hkn⟩
theorem INX.u5 {b : Nat} {ad : Ad} {T T2 : Tb} {Q : Qs} {σ : PH} {s k : Nat} (h : INX s k b ad T Q T2 σ) {j : Nat} (hj : j < cC T) (v : Int32) : INX s k b ad (x_up T 5 j v) Q T2 (x_uI σ 105 (ad 1 j) v) := by
  obtain ⟨h1, h2, h3, h4, h5, h6, h7⟩ := h
  exact ⟨h1.u5 hj v, h2.uI v (by decide), h3.u5 hj, h4, h5, h6.congr rfl rfl rfl rfl rfl rfl, h7⟩
theorem JT.u11 {T : Tb} {s : Nat} (h : JT s T) {j : Nat} (hj : j < cW T) {v : Int32} : JT s (x_up T 11 j v) := by
  obtain ⟨hC, hW, hB, hO, hM, hnw, hpu, hop, hwi, hls, hdg, hrl, hsp, hor, hme, hmq, hmw, hmr, hfC, hfW, hfO, hfM, hkn⟩ := h
  exact ⟨hC, hW, hB, hO, hM, hnw, hpu, hop, hwi, hls, hdg, hrl, hsp, hor, hme, hmq, hmw, hmr, hfC, (fun i hi => by have hne : ¬ i = j := (by have : cW T ≤ i := hi; omega); have q := hfW i hi; simp only [x_up, hne, and_false, if_false]; exact q), hfO, hfM, hkn⟩
theorem INX.u11 {b : Nat} {ad : Ad} {T T2 : Tb} {Q : Qs} {σ : PH} {s k : Nat} (h : INX s k b ad T Q T2 σ) {j : Nat} (hj : j < cW T) (v : Int32) : INX s k b ad (x_up T 11 j v) Q T2 (x_uI σ 703 (ad 7 j) v) := by
  obtain ⟨h1, h2, h3, h4, h5, h6, h7⟩ := h
  exact ⟨h1.u11 hj v, h2.uI v (by decide), h3.u11 hj, h4, h5, h6.congr rfl rfl rfl rfl rfl rfl, h7⟩
theorem JT.u12 {T : Tb} {s : Nat} (h : JT s T) {j : Nat} (hj : j < cW T) {v : Int32} (hv : 0 ≤ v) : JT s (x_up T 12 j v) := by
  obtain ⟨hC, hW, hB, hO, hM, hnw, hpu, hop, hwi, hls, hdg, hrl, hsp, hor, hme, hmq, hmw, hmr, hfC, hfW, hfO, hfM, hkn⟩ := h
  exact ⟨hC, hW, hB, hO, hM, hnw, hpu, hop, (fun w hw => ⟨(hwi w hw).1, (hwi w hw).2.1, (hwi w hw).2.2.1, (hwi w hw).2.2.2.1, (hwi w hw).2.2.2.2.1, by show (0 : Int32) ≤ x_up T 12 j v 12 w; unfold x_up; (split <;> first | exact hv | exact (hwi w hw).2.2.2.2.2)⟩), hls, hdg, hrl, hsp, hor, hme, hmq, hmw, hmr, hfC, (fun i hi => by have hne : ¬ i = j := (by have : cW T ≤ i := hi; omega); have q := hfW i hi; simp only [x_up, hne, and_false, if_false]; exact q), hfO, hfM, hkn⟩
theorem INX.u12 {b : Nat} {ad : Ad} {T T2 : Tb} {Q : Qs} {σ : PH} {s k : Nat} (h : INX s k b ad T Q T2 σ) {j : Nat} (hj : j < cW T) (v : Int32) (hv : 0 ≤ v) : INX s k b ad (x_up T 12 j v) Q T2 (x_uI σ 704 (ad 7 j) v) := by
  obtain ⟨h1, h2, h3, h4, h5, h6, h7⟩ := h
  exact ⟨h1.u12 hj v, h2.uI v (by decide), h3.u12 hj hv, h4, h5, h6.congr rfl rfl rfl rfl rfl rfl, h7⟩
theorem JT.u22 {T : Tb} {s : Nat} (h : JT s T) {j : Nat} (hj : j < cO T) {v : Int32} : JT s (x_up T 22 j v) := by
  obtain ⟨hC, hW, hB, hO, hM, hnw, hpu, hop, hwi, hls, hdg, hrl, hsp, hor, hme, hmq, hmw, hmr, hfC, hfW, hfO, hfM, hkn⟩ := h
  exact ⟨hC, hW, hB, hO, hM, hnw, hpu, hop, hwi, hls, hdg, hrl, hsp, hor, hme, hmq, hmw, hmr, hfC, hfW, hfO, hfM, hkn⟩
theorem INX.u22 {b : Nat} {ad : Ad} {T T2 : Tb} {Q : Qs} {σ : PH} {s k : Nat} (h : INX s k b ad T Q T2 σ) {j : Nat} (hj : j < cO T) (v : Int32) : INX s k b ad (x_up T 22 j v) Q T2 (x_uI σ 405 (ad 4 j) v) := by
  obtain ⟨h1, h2, h3, h4, h5, h6, h7⟩ := h
  exact ⟨h1.u22 hj v, h2.uI v (by decide), h3.u22 hj, h4, h5, h6.congr rfl rfl rfl rfl rfl rfl, h7⟩
theorem JT.u23 {T : Tb} {s : Nat} (h : JT s T) {j : Nat} (hj : j < cO T) {v : Int32} : JT s (x_up T 23 j v) := by
  obtain ⟨hC, hW, hB, hO, hM, hnw, hpu, hop, hwi, hls, hdg, hrl, hsp, hor, hme, hmq, hmw, hmr, hfC, hfW, hfO, hfM, hkn⟩ := h
  exact ⟨hC, hW, hB, hO, hM, hnw, hpu, hop, hwi, hls, hdg, hrl, hsp, hor, hme, hmq, hmw, hmr, hfC, hfW, (fun i hi => by have hne : ¬ i = j := (by have : cO T ≤ i := hi; omega); have q := hfO i hi; simp only [x_up, hne, and_false, if_false]; exact q), hfM, hkn⟩
theorem INX.u23 {b : Nat} {ad : Ad} {T T2 : Tb} {Q : Qs} {σ : PH} {s k : Nat} (h : INX s k b ad T Q T2 σ) {j : Nat} (hj : j < cO T) (v : Int32) : INX s k b ad (x_up T 23 j v) Q T2 (x_uI σ 406 (ad 4 j) v) := by
  obtain ⟨h1, h2, h3, h4, h5, h6, h7⟩ := h
  exact ⟨h1.u23 hj v, h2.uI v (by decide), h3.u23 hj, h4, h5, h6.congr rfl rfl rfl rfl rfl rfl, h7⟩
theorem JT.u24 {T : Tb} {s : Nat} (h : JT s T) {j : Nat} (hj : j < cO T) {v : Int32} : JT s (x_up T 24 j v) := by
  obtain ⟨hC, hW, hB, hO, hM, hnw, hpu, hop, hwi, hls, hdg, hrl, hsp, hor, hme, hmq, hmw, hmr, hfC, hfW, hfO, hfM, hkn⟩ := h
  exact ⟨hC, hW, hB, hO, hM, hnw, hpu, hop, hwi, hls, hdg, hrl, hsp, hor, hme, hmq, hmw, hmr, hfC, hfW, (fun i hi => by have hne : ¬ i = j := (by have : cO T ≤ i := hi; omega); have q := hfO i hi; simp only [x_up, hne, and_false, if_false]; exact q), hfM, hkn⟩
theorem INX.u24 {b : Nat} {ad : Ad} {T T2 : Tb} {Q : Qs} {σ : PH} {s k : Nat} (h : INX s k b ad T Q T2 σ) {j : Nat} (hj : j < cO T) (v : Int32) : INX s k b ad (x_up T 24 j v) Q T2 (x_uI σ 407 (ad 4 j) v) := by
  obtain ⟨h1, h2, h3, h4, h5, h6, h7⟩ := h
  exact ⟨h1.u24 hj v, h2.uI v (by decide), h3.u24 hj, h4, h5, h6.congr rfl rfl rfl rfl rfl rfl, h7⟩
theorem JT.u25 {T : Tb} {s : Nat} (h : JT s T) {j : Nat} (hj : j < cO T) {v : Int32} : JT s (x_up T 25 j v) := by
  obtain ⟨hC, hW, hB, hO, hM, hnw, hpu, hop, hwi, hls, hdg, hrl, hsp, hor, hme, hmq, hmw, hmr, hfC, hfW, hfO, hfM, hkn⟩ := h
  exact ⟨hC, hW, hB, hO, hM, hnw, hpu, hop, hwi, hls, hdg, hrl, hsp, hor, hme, hmq, hmw, hmr, hfC, hfW, (fun i hi => by have hne : ¬ i = j := (by have : cO T ≤ i := hi; omega); have q := hfO i hi; simp only [x_up, hne, and_false, if_false]; exact q), hfM, hkn⟩
theorem INX.u25 {b : Nat} {ad : Ad} {T T2 : Tb} {Q : Qs} {σ : PH} {s k : Nat} (h : INX s k b ad T Q T2 σ) {j : Nat} (hj : j < cO T) (v : Int32) : INX s k b ad (x_up T 25 j v) Q T2 (x_uI σ 408 (ad 4 j) v) := by
  obtain ⟨h1, h2, h3, h4, h5, h6, h7⟩ := h
  exact ⟨h1.u25 hj v, h2.uI v (by decide), h3.u25 hj, h4, h5, h6.congr rfl rfl rfl rfl rfl rfl, h7⟩
theorem JT.u26 {T : Tb} {s : Nat} (h : JT s T) {j : Nat} (hj : j < cO T) {v : Int32} : JT s (x_up T 26 j v) := by
  obtain ⟨hC, hW, hB, hO, hM, hnw, hpu, hop, hwi, hls, hdg, hrl, hsp, hor, hme, hmq, hmw, hmr, hfC, hfW, hfO, hfM, hkn⟩ := h
  exact ⟨hC, hW, hB, hO, hM, hnw, hpu, hop, hwi, hls, hdg, hrl, hsp, hor, hme, hmq, hmw, hmr, hfC, hfW, (fun i hi => by have hne : ¬ i = j := (by have : cO T ≤ i := hi; omega); have q := hfO i hi; simp only [x_up, hne, and_false, if_false]; exact q), hfM, hkn⟩
theorem INX.u26 {b : Nat} {ad : Ad} {T T2 : Tb} {Q : Qs} {σ : PH} {s k : Nat} (h : INX s k b ad T Q T2 σ) {j : Nat} (hj : j < cO T) (v : Int32) : INX s k b ad (x_up T 26 j v) Q T2 (x_uI σ 409 (ad 4 j) v) := by
  obtain ⟨h1, h2, h3, h4, h5, h6, h7⟩ := h
  exact ⟨h1.u26 hj v, h2.uI v (by decide), h3.u26 hj, h4, h5, h6.congr rfl rfl rfl rfl rfl rfl, h7⟩
theorem JT.u27 {T : Tb} {s : Nat} (h : JT s T) {j : Nat} (hj : j < cO T) {v : Int32} : JT s (x_up T 27 j v) := by
  obtain ⟨hC, hW, hB, hO, hM, hnw, hpu, hop, hwi, hls, hdg, hrl, hsp, hor, hme, hmq, hmw, hmr, hfC, hfW, hfO, hfM, hkn⟩ := h
  exact ⟨hC, hW, hB, hO, hM, hnw, hpu, hop, hwi, hls, hdg, hrl, hsp, hor, hme, hmq, hmw, hmr, hfC, hfW, (fun i hi => by have hne : ¬ i = j := (by have : cO T ≤ i := hi; omega); have q := hfO i hi; simp only [x_up, hne, and_false, if_false]; exact q), hfM, hkn⟩
theorem INX.u27 {b : Nat} {ad : Ad} {T T2 : Tb} {Q : Qs} {σ : PH} {s k : Nat} (h : INX s k b ad T Q T2 σ) {j : Nat} (hj : j < cO T) (v : Int32) : INX s k b ad (x_up T 27 j v) Q T2 (x_uI σ 410 (ad 4 j) v) := by
  obtain ⟨h1, h2, h3, h4, h5, h6, h7⟩ := h
  exact ⟨h1.u27 hj v, h2.uI v (by decide), h3.u27 hj, h4, h5, h6.congr rfl rfl rfl rfl rfl rfl, h7⟩
theorem JT.u28 {T : Tb} {s : Nat} (h : JT s T) {j : Nat} (hj : j < cO T) {v : Int32} : JT s (x_up T 28 j v) := by
  obtain ⟨hC, hW, hB, hO, hM, hnw, hpu, hop, hwi, hls, hdg, hrl, hsp, hor, hme, hmq, hmw, hmr, hfC, hfW, hfO, hfM, hkn⟩ := h
  exact ⟨hC, hW, hB, hO, hM, hnw, hpu, hop, hwi, hls, hdg, hrl, hsp, hor, hme, hmq, hmw, hmr, hfC, hfW, hfO, hfM, hkn⟩
theorem INX.u28 {b : Nat} {ad : Ad} {T T2 : Tb} {Q : Qs} {σ : PH} {s k : Nat} (h : INX s k b ad T Q T2 σ) {j : Nat} (hj : j < cO T) (v : Int32) : INX s k b ad (x_up T 28 j v) Q T2 (x_uI σ 411 (ad 4 j) v) := by
  obtain ⟨h1, h2, h3, h4, h5, h6, h7⟩ := h
  exact ⟨h1.u28 hj v, h2.uI v (by decide), h3.u28 hj, h4, h5, h6.congr rfl rfl rfl rfl rfl rfl, h7⟩
theorem JT.u29 {T : Tb} {s : Nat} (h : JT s T) {j : Nat} (hj : j < cO T) {v : Int32} : JT s (x_up T 29 j v) := by
  obtain ⟨hC, hW, hB, hO, hM, hnw, hpu, hop, hwi, hls, hdg, hrl, hsp, hor, hme, hmq, hmw, hmr, hfC, hfW, hfO, hfM, hkn⟩ := h
  exact ⟨hC, hW, hB, hO, hM, hnw, hpu, hop, hwi, hls, hdg, hrl, hsp, hor, hme, hmq, hmw, hmr, hfC, hfW, (fun i hi => by have hne : ¬ i = j := (by have : cO T ≤ i := hi; omega); have q := hfO i hi; simp only [x_up, hne, and_false, if_false]; exact q), hfM, hkn⟩
theorem INX.u29 {b : Nat} {ad : Ad} {T T2 : Tb} {Q : Qs} {σ : PH} {s k : Nat} (h : INX s k b ad T Q T2 σ) {j : Nat} (hj : j < cO T) (v : Int32) : INX s k b ad (x_up T 29 j v) Q T2 (x_uI σ 412 (ad 4 j) v) := by
  obtain ⟨h1, h2, h3, h4, h5, h6, h7⟩ := h
  exact ⟨h1.u29 hj v, h2.uI v (by decide), h3.u29 hj, h4, h5, h6.congr rfl rfl rfl rfl rfl rfl, h7⟩
theorem JT.u41 {T : Tb} {s : Nat} (h : JT s T) {j : Nat} (hj : j < cM T) {v : Int32} : JT s (x_up T 41 j v) := by
  obtain ⟨hC, hW, hB, hO, hM, hnw, hpu, hop, hwi, hls, hdg, hrl, hsp, hor, hme, hmq, hmw, hmr, hfC, hfW, hfO, hfM, hkn⟩ := h
  exact ⟨hC, hW, hB, hO, hM, hnw, hpu, hop, hwi, hls, hdg, hrl, hsp, hor, hme, hmq, hmw, hmr, hfC, hfW, hfO, (fun i hi => by have hne : ¬ i = j := (by have : cM T ≤ i := hi; omega); have q := hfM i hi; simp only [x_up, hne, and_false, if_false]; exact q), hkn⟩
theorem INX.u41 {b : Nat} {ad : Ad} {T T2 : Tb} {Q : Qs} {σ : PH} {s k : Nat} (h : INX s k b ad T Q T2 σ) {j : Nat} (hj : j < cM T) (v : Int32) : INX s k b ad (x_up T 41 j v) Q T2 (x_uI σ 209 (ad 2 j) v) := by
  obtain ⟨h1, h2, h3, h4, h5, h6, h7⟩ := h
  exact ⟨h1.u41 hj v, h2.uI v (by decide), h3.u41 hj, h4, h5, h6.congr rfl rfl rfl rfl rfl rfl, h7⟩
theorem JT.u43 {T : Tb} {s : Nat} (h : JT s T) {j : Nat} (hj : j < cM T) {v : Int32} : JT s (x_up T 43 j v) := by
  obtain ⟨hC, hW, hB, hO, hM, hnw, hpu, hop, hwi, hls, hdg, hrl, hsp, hor, hme, hmq, hmw, hmr, hfC, hfW, hfO, hfM, hkn⟩ := h
  exact ⟨hC, hW, hB, hO, hM, hnw, hpu, hop, hwi, hls, hdg, hrl, hsp, hor, hme, hmq, hmw, hmr, hfC, hfW, hfO, hfM, hkn⟩
theorem INX.u43 {b : Nat} {ad : Ad} {T T2 : Tb} {Q : Qs} {σ : PH} {s k : Nat} (h : INX s k b ad T Q T2 σ) {j : Nat} (hj : j < cM T) (hp : T 31 j = 0) (v : Int32) : INX s k b ad (x_up T 43 j v) Q T2 (x_uI σ 600 (ad 6 j) v) := by
  obtain ⟨h1, h2, h3, h4, h5, h6, h7⟩ := h
  exact ⟨h1.u43 hj hp v, h2.uI v (by decide), h3.u43 hj, h4, h5, h6.congr rfl rfl rfl rfl rfl rfl, h7⟩
theorem JT.u44 {T : Tb} {s : Nat} (h : JT s T) {j : Nat} (hj : j < cM T) {v : Int32} : JT s (x_up T 44 j v) := by
  obtain ⟨hC, hW, hB, hO, hM, hnw, hpu, hop, hwi, hls, hdg, hrl, hsp, hor, hme, hmq, hmw, hmr, hfC, hfW, hfO, hfM, hkn⟩ := h
  exact ⟨hC, hW, hB, hO, hM, hnw, hpu, hop, hwi, hls, hdg, hrl, hsp, hor, hme, hmq, hmw, hmr, hfC, hfW, hfO, hfM, hkn⟩
theorem INX.u44 {b : Nat} {ad : Ad} {T T2 : Tb} {Q : Qs} {σ : PH} {s k : Nat} (h : INX s k b ad T Q T2 σ) {j : Nat} (hj : j < cM T) (hp : T 31 j = 0) (v : Int32) : INX s k b ad (x_up T 44 j v) Q T2 (x_uI σ 602 (ad 6 j) v) := by
  obtain ⟨h1, h2, h3, h4, h5, h6, h7⟩ := h
  exact ⟨h1.u44 hj hp v, h2.uI v (by decide), h3.u44 hj, h4, h5, h6.congr rfl rfl rfl rfl rfl rfl, h7⟩
theorem JT.u42 {T : Tb} {s : Nat} (h : JT s T) {j : Nat} (hj : j < cM T) {v : Int32} : JT s (x_up T 42 j v) := by
  obtain ⟨hC, hW, hB, hO, hM, hnw, hpu, hop, hwi, hls, hdg, hrl, hsp, hor, hme, hmq, hmw, hmr, hfC, hfW, hfO, hfM, hkn⟩ := h
  exact ⟨hC, hW, hB, hO, hM, hnw, hpu, hop, hwi, hls, hdg, hrl, hsp, hor, hme, hmq, hmw, hmr, hfC, hfW, hfO, (fun i hi => by have hne : ¬ i = j := (by have : cM T ≤ i := hi; omega); have q := hfM i hi; simp only [x_up, hne, and_false, if_false]; exact q), hkn⟩
theorem INX.u42 {b : Nat} {ad : Ad} {T T2 : Tb} {Q : Qs} {σ : PH} {s k : Nat} (h : INX s k b ad T Q T2 σ) {j : Nat} (hj : j < cM T) (hp : T 31 j = 0) (v : Int32) : INX s k b ad (x_up T 42 j v) Q T2 (x_uI σ 603 (ad 6 j) v) := by
  obtain ⟨h1, h2, h3, h4, h5, h6, h7⟩ := h
  exact ⟨h1.u42 hj hp v, h2.uI v (by decide), h3.u42 hj, h4, h5, h6.congr rfl rfl rfl rfl rfl rfl, h7⟩
theorem JT.u47 {T : Tb} {s : Nat} (h : JT s T) {v : Int32} : JT s (x_up T 47 0 v) := by
  obtain ⟨hC, hW, hB, hO, hM, hnw, hpu, hop, hwi, hls, hdg, hrl, hsp, hor, hme, hmq, hmw, hmr, hfC, hfW, hfO, hfM, hkn⟩ := h
  exact ⟨hC, hW, hB, hO, hM, hnw, hpu, hop, hwi, hls, hdg, hrl, hsp, hor, hme, hmq, hmw, hmr, hfC, hfW, hfO, hfM, hkn⟩
theorem INX.u47 {b : Nat} {ad : Ad} {T T2 : Tb} {Q : Qs} {σ : PH} {s k : Nat} (h : INX s k b ad T Q T2 σ) (v : Int32) : INX s k b ad (x_up T 47 0 v) Q T2 (x_uI σ 808 b v) := by
  obtain ⟨h1, h2, h3, h4, h5, h6, h7⟩ := h
  exact ⟨h1.u47 v, h2.uI v (by decide), h3.u47, h4, h5, h6.congr rfl rfl rfl rfl rfl rfl, h7⟩
theorem JT.u48 {T : Tb} {s : Nat} (h : JT s T) {v : Int32} : JT s (x_up T 48 0 v) := by
  obtain ⟨hC, hW, hB, hO, hM, hnw, hpu, hop, hwi, hls, hdg, hrl, hsp, hor, hme, hmq, hmw, hmr, hfC, hfW, hfO, hfM, hkn⟩ := h
  exact ⟨hC, hW, hB, hO, hM, hnw, hpu, hop, hwi, hls, hdg, hrl, hsp, hor, hme, hmq, hmw, hmr, hfC, hfW, hfO, hfM, hkn⟩
theorem INX.u48 {b : Nat} {ad : Ad} {T T2 : Tb} {Q : Qs} {σ : PH} {s k : Nat} (h : INX s k b ad T Q T2 σ) (v : Int32) : INX s k b ad (x_up T 48 0 v) Q T2 (x_uI σ 809 b v) := by
  obtain ⟨h1, h2, h3, h4, h5, h6, h7⟩ := h
  exact ⟨h1.u48 v, h2.uI v (by decide), h3.u48, h4, h5, h6.congr rfl rfl rfl rfl rfl rfl, h7⟩
theorem JT.u49 {T : Tb} {s : Nat} (h : JT s T) {v : Int32} : JT s (x_up T 49 0 v) := by
  obtain ⟨hC, hW, hB, hO, hM, hnw, hpu, hop, hwi, hls, hdg, hrl, hsp, hor, hme, hmq, hmw, hmr, hfC, hfW, hfO, hfM, hkn⟩ := h
  exact ⟨hC, hW, hB, hO, hM, hnw, hpu, hop, hwi, hls, hdg, hrl, hsp, hor, hme, hmq, hmw, hmr, hfC, hfW, hfO, hfM, hkn⟩
theorem INX.u49 {b : Nat} {ad : Ad} {T T2 : Tb} {Q : Qs} {σ : PH} {s k : Nat} (h : INX s k b ad T Q T2 σ) (v : Int32) : INX s k b ad (x_up T 49 0 v) Q T2 (x_uI σ 810 b v) := by
  obtain ⟨h1, h2, h3, h4, h5, h6, h7⟩ := h
  exact ⟨h1.u49 v, h2.uI v (by decide), h3.u49, h4, h5, h6.congr rfl rfl rfl rfl rfl rfl, h7⟩
